theorem dL_at_0 : decode cL_at 0 = .ok (.iload_n 1, 1) := by decide +kernel
theorem dL_at_1 : decode cL_at 1 = .ok (.aload_n 0, 1) := by decide +kernel
theorem dL_at_2 : decode cL_at 2 = .ok (.arraylength, 1) := by decide +kernel
theorem dL_at_3 : decode cL_at 3 = .ok (.if_icmp .ge 9, 3) := by decide +kernel
theorem dL_at_6 : decode cL_at 6 = .ok (.aload_n 0, 1) := by decide +kernel
theorem dL_at_7 : decode cL_at 7 = .ok (.iload_n 1, 1) := by decide +kernel
theorem dL_at_8 : decode cL_at 8 = .ok (.iaload, 1) := by decide +kernel
theorem dL_at_9 : decode cL_at 9 = .ok (.goto 12, 3) := by decide +kernel
theorem dL_at_12 : decode cL_at 12 = .ok (.ldc 7, 2) := by decide +kernel
theorem dL_at_14 : decode cL_at 14 = .ok (.iload_n 1, 1) := by decide +kernel
theorem dL_at_15 : decode cL_at 15 = .ok (.iconst 1, 1) := by decide +kernel
theorem dL_at_16 : decode cL_at 16 = .ok (.iadd, 1) := by decide +kernel
theorem dL_at_17 : decode cL_at 17 = .ok (.imul, 1) := by decide +kernel
theorem dL_at_18 : decode cL_at 18 = .ok (.ldc 8, 2) := by decide +kernel
theorem dL_at_20 : decode cL_at 20 = .ok (.iadd, 1) := by decide +kernel
theorem dL_at_21 : decode cL_at 21 = .ok (.ireturn, 1) := by decide +kernel
theorem dL_low_0 : decode cL_low 0 = .ok (.iload_n 0, 1) := by decide +kernel
theorem dL_low_1 : decode cL_low 1 = .ok (.ldc 9, 2) := by decide +kernel
theorem dL_low_3 : decode cL_low 3 = .ok (.iand, 1) := by decide +kernel
theorem dL_low_4 : decode cL_low 4 = .ok (.iload_n 1, 1) := by decide +kernel
theorem dL_low_5 : decode cL_low 5 = .ok (.irem, 1) := by decide +kernel
theorem dL_low_6 : decode cL_low 6 = .ok (.ireturn, 1) := by decide +kernel
set_option maxRecDepth 20000 in
theorem ggL_addBreak_X0_addBreak : GoodIn wsL_addBreak wsX0_addBreak := goodIn_ca (goodIn_ca (goodIn_r _ [9, 10, 11, 12, 13, 8, 14, 15, 16, 17, 18, 19, 20, 21, 22, 23, 24, 25, 26, 27, 28, 29, 30, 31, 32, 33, 34, 35, 36, 37, 38, 39, 40, 41, 42] (by decide +kernel) (by decide +kernel)) (goodIn_sub (fun _ h => List.mem_cons_of_mem _ (List.mem_append_left _ (List.mem_append_right _ h))) (by decide +kernel))) (goodIn_sub (fun _ h => List.mem_cons_of_mem _ (List.mem_append_right _ h)) (by decide +kernel))
set_option maxRecDepth 20000 in
theorem gL_addBreak_X0_addBreak : GoodIn wsL_addBreak (wsV RL 10 RX0 yX0_addBreak wsX0_addBreak) := goodIn_app (goodIn_of _ (by decide +kernel)) ggL_addBreak_X0_addBreak
theorem dL_addBreak_0 : decode cL_addBreak 0 = .ok (.aload_n 0, 1) := by decide +kernel
theorem dL_addBreak_1 : decode cL_addBreak 1 = .ok (.iload_n 1, 1) := by decide +kernel
theorem dL_addBreak_2 : decode cL_addBreak 2 = .ok (.invokevirtual 10, 3) := by decide +kernel
theorem dL_addBreak_5 : decode cL_addBreak 5 = .ok (.ireturn, 1) := by decide +kernel
theorem dL_addBreak_6 : decode cL_addBreak 6 = .ok (.astore_n 2, 1) := by decide +kernel
theorem dL_addBreak_7 : decode cL_addBreak 7 = .ok (.ldc 18, 2) := by decide +kernel
theorem dL_addBreak_9 : decode cL_addBreak 9 = .ok (.ireturn, 1) := by decide +kernel
theorem dL_addBreak_10 : decode cL_addBreak 10 = .ok (.astore_n 2, 1) := by decide +kernel
theorem dL_addBreak_11 : decode cL_addBreak 11 = .ok (.ldc 21, 2) := by decide +kernel
theorem dL_addBreak_13 : decode cL_addBreak 13 = .ok (.ireturn, 1) := by decide +kernel
set_option maxRecDepth 20000 in
theorem ggL_rate_X0_rate : GoodIn wsL_rate wsX0_rate := goodIn_ca (goodIn_ca (goodIn_r _ [9, 10, 11, 12, 13, 14, 8, 15, 16, 17, 18, 19, 20, 21, 22, 23, 24, 25, 26, 27, 28, 29, 30, 31, 32, 33, 34, 35, 36, 37, 38, 39, 40, 41, 42, 43, 44, 45, 46, 47, 48, 49, 50, 51, 52, 53] (by decide +kernel) (by decide +kernel)) (goodIn_sub (fun _ h => List.mem_cons_of_mem _ (List.mem_append_left _ (List.mem_append_right _ h))) (by decide +kernel))) (goodIn_sub (fun _ h => List.mem_cons_of_mem _ (List.mem_append_right _ h)) (by decide +kernel))
set_option maxRecDepth 20000 in
theorem gL_rate_X0_rate : GoodIn wsL_rate (wsV RL 22 RX0 yX0_rate wsX0_rate) := goodIn_app (goodIn_of _ (by decide +kernel)) ggL_rate_X0_rate
theorem dL_rate_0 : decode cL_rate 0 = .ok (.aload_n 0, 1) := by decide +kernel
theorem dL_rate_1 : decode cL_rate 1 = .ok (.iload_n 1, 1) := by decide +kernel
theorem dL_rate_2 : decode cL_rate 2 = .ok (.iload_n 2, 1) := by decide +kernel
theorem dL_rate_3 : decode cL_rate 3 = .ok (.iload_n 3, 1) := by decide +kernel
theorem dL_rate_4 : decode cL_rate 4 = .ok (.invokevirtual 22, 3) := by decide +kernel
theorem dL_rate_7 : decode cL_rate 7 = .ok (.ireturn, 1) := by decide +kernel
theorem dL_rate_8 : decode cL_rate 8 = .ok (.astore 4, 2) := by decide +kernel
theorem dL_rate_10 : decode cL_rate 10 = .ok (.ldc 28, 2) := by decide +kernel
theorem dL_rate_12 : decode cL_rate 12 = .ok (.ireturn, 1) := by decide +kernel
theorem dL_rate_13 : decode cL_rate 13 = .ok (.astore 4, 2) := by decide +kernel
theorem dL_rate_15 : decode cL_rate 15 = .ok (.ldc 18, 2) := by decide +kernel
theorem dL_rate_17 : decode cL_rate 17 = .ok (.ireturn, 1) := by decide +kernel
set_option maxRecDepth 20000 in
theorem ggL_air_X0_air : GoodIn wsL_air wsX0_air := goodIn_ca (goodIn_ca (goodIn_r _ [9, 10, 11, 12, 13, 14, 15, 16, 8, 17, 18, 19, 20, 21, 22, 23, 24, 25, 26, 27, 28, 29, 30, 31, 32, 33, 34, 35, 36, 37, 38, 39, 40, 41, 42, 43, 44, 45, 46] (by decide +kernel) (by decide +kernel)) (goodIn_sub (fun _ h => List.mem_cons_of_mem _ (List.mem_append_left _ (List.mem_append_right _ h))) (by decide +kernel))) (goodIn_sub (fun _ h => List.mem_cons_of_mem _ (List.mem_append_right _ h)) (by decide +kernel))
set_option maxRecDepth 20000 in
theorem gL_air_X0_air : GoodIn wsL_air (wsV RL 29 RX0 yX0_air wsX0_air) := goodIn_app (goodIn_of _ (by decide +kernel)) ggL_air_X0_air
theorem dL_air_0 : decode cL_air 0 = .ok (.aload_n 0, 1) := by decide +kernel
theorem dL_air_1 : decode cL_air 1 = .ok (.iload_n 1, 1) := by decide +kernel
theorem dL_air_2 : decode cL_air 2 = .ok (.invokevirtual 29, 3) := by decide +kernel
theorem dL_air_5 : decode cL_air 5 = .ok (.ireturn, 1) := by decide +kernel
theorem dL_air_6 : decode cL_air 6 = .ok (.astore_n 2, 1) := by decide +kernel
theorem dL_air_7 : decode cL_air 7 = .ok (.ldc 28, 2) := by decide +kernel
theorem dL_air_9 : decode cL_air 9 = .ok (.ireturn, 1) := by decide +kernel
theorem dL_air_10 : decode cL_air 10 = .ok (.astore_n 2, 1) := by decide +kernel
theorem dL_air_11 : decode cL_air 11 = .ok (.ldc 21, 2) := by decide +kernel
theorem dL_air_13 : decode cL_air 13 = .ok (.ireturn, 1) := by decide +kernel
set_option maxRecDepth 20000 in
theorem ggL_isAired_X0_isAired : GoodIn wsL_isAired wsX0_isAired := goodIn_ca (goodIn_r _ [7, 8, 9, 10, 11, 6, 12, 13, 14, 15, 16, 17, 18, 19, 20, 21, 22, 23, 24, 25, 26, 27, 28, 29, 30, 31, 32, 33, 34, 35, 36] (by decide +kernel) (by decide +kernel)) (goodIn_sub (fun _ h => List.mem_cons_of_mem _ (List.mem_append_right _ h)) (by decide +kernel))
set_option maxRecDepth 20000 in
theorem gL_isAired_X0_isAired : GoodIn wsL_isAired (wsV RL 32 RX0 yX0_isAired wsX0_isAired) := goodIn_app (goodIn_of _ (by decide +kernel)) ggL_isAired_X0_isAired
theorem dL_isAired_0 : decode cL_isAired 0 = .ok (.aload_n 0, 1) := by decide +kernel
theorem dL_isAired_1 : decode cL_isAired 1 = .ok (.iload_n 1, 1) := by decide +kernel
theorem dL_isAired_2 : decode cL_isAired 2 = .ok (.invokevirtual 32, 3) := by decide +kernel
theorem dL_isAired_5 : decode cL_isAired 5 = .ok (.ifCond .eq 7, 3) := by decide +kernel
theorem dL_isAired_8 : decode cL_isAired 8 = .ok (.iconst 1, 1) := by decide +kernel
theorem dL_isAired_9 : decode cL_isAired 9 = .ok (.goto 4, 3) := by decide +kernel
theorem dL_isAired_12 : decode cL_isAired 12 = .ok (.iconst 0, 1) := by decide +kernel
theorem dL_isAired_13 : decode cL_isAired 13 = .ok (.ireturn, 1) := by decide +kernel
theorem dL_isAired_14 : decode cL_isAired 14 = .ok (.astore_n 2, 1) := by decide +kernel
theorem dL_isAired_15 : decode cL_isAired 15 = .ok (.ldc 28, 2) := by decide +kernel
theorem dL_isAired_17 : decode cL_isAired 17 = .ok (.ireturn, 1) := by decide +kernel
set_option maxRecDepth 20000 in
theorem ggL_room_X0_room : GoodIn wsL_room wsX0_room := goodIn_ca (goodIn_r _ [7, 8, 9, 10, 6, 11, 12, 13, 14, 15, 16, 17, 18, 19, 20, 21, 22, 23, 24, 25, 26, 27, 28, 29, 30, 31, 32, 33, 34, 35, 36, 37, 38, 39, 40, 41, 42, 43, 44, 45, 46, 47, 48, 49] (by decide +kernel) (by decide +kernel)) (goodIn_sub (fun _ h => List.mem_cons_of_mem _ (List.mem_append_right _ h)) (by decide +kernel))
set_option maxRecDepth 20000 in
theorem gL_room_X0_room : GoodIn wsL_room (wsV RL 36 RX0 yX0_room wsX0_room) := goodIn_app (goodIn_of _ (by decide +kernel)) ggL_room_X0_room
theorem dL_room_0 : decode cL_room 0 = .ok (.aload_n 0, 1) := by decide +kernel
theorem dL_room_1 : decode cL_room 1 = .ok (.iload_n 1, 1) := by decide +kernel
theorem dL_room_2 : decode cL_room 2 = .ok (.invokevirtual 36, 3) := by decide +kernel
theorem dL_room_5 : decode cL_room 5 = .ok (.ireturn, 1) := by decide +kernel
theorem dL_room_6 : decode cL_room 6 = .ok (.astore_n 2, 1) := by decide +kernel
theorem dL_room_7 : decode cL_room 7 = .ok (.ldc 28, 2) := by decide +kernel
theorem dL_room_9 : decode cL_room 9 = .ok (.ireturn, 1) := by decide +kernel
set_option maxRecDepth 20000 in
theorem ggL_rating_X0_rating : GoodIn wsL_rating wsX0_rating := goodIn_ca (goodIn_ca (goodIn_r _ [9, 10, 11, 12, 13, 8, 14, 15, 16, 17, 18, 19, 20, 21, 22, 23, 24, 25, 26, 27, 28, 29, 30, 31, 32, 33, 34, 35, 36, 37, 38, 39, 40, 41, 42, 43, 44, 45, 46, 47, 48, 49, 50, 51, 52] (by decide +kernel) (by decide +kernel)) (goodIn_sub (fun _ h => List.mem_cons_of_mem _ (List.mem_append_left _ (List.mem_append_right _ h))) (by decide +kernel))) (goodIn_sub (fun _ h => List.mem_cons_of_mem _ (List.mem_append_right _ h)) (by decide +kernel))
set_option maxRecDepth 20000 in
theorem gL_rating_X0_rating : GoodIn wsL_rating (wsV RL 39 RX0 yX0_rating wsX0_rating) := goodIn_app (goodIn_of _ (by decide +kernel)) ggL_rating_X0_rating
theorem dL_rating_0 : decode cL_rating 0 = .ok (.aload_n 0, 1) := by decide +kernel
theorem dL_rating_1 : decode cL_rating 1 = .ok (.iload_n 1, 1) := by decide +kernel
theorem dL_rating_2 : decode cL_rating 2 = .ok (.iload_n 2, 1) := by decide +kernel
theorem dL_rating_3 : decode cL_rating 3 = .ok (.invokevirtual 39, 3) := by decide +kernel
theorem dL_rating_6 : decode cL_rating 6 = .ok (.ireturn, 1) := by decide +kernel
theorem dL_rating_7 : decode cL_rating 7 = .ok (.astore_n 3, 1) := by decide +kernel
theorem dL_rating_8 : decode cL_rating 8 = .ok (.ldc 28, 2) := by decide +kernel
theorem dL_rating_10 : decode cL_rating 10 = .ok (.ireturn, 1) := by decide +kernel
theorem dL_rating_11 : decode cL_rating 11 = .ok (.astore_n 3, 1) := by decide +kernel
theorem dL_rating_12 : decode cL_rating 12 = .ok (.ldc 18, 2) := by decide +kernel
theorem dL_rating_14 : decode cL_rating 14 = .ok (.ireturn, 1) := by decide +kernel
set_option maxRecDepth 20000 in
theorem ggL_addOrder_X0_addOrder : GoodIn wsL_addOrder wsX0_addOrder := goodIn_ca (goodIn_ca (goodIn_r _ [9, 10, 11, 12, 13, 14, 15, 16, 17, 18, 19, 20, 21, 8, 22, 23, 24, 25, 26, 27, 28, 29, 30, 31, 32, 33, 34, 35, 36, 37, 38, 39, 40, 41, 42, 43, 44, 45, 46, 47, 48, 49, 50, 51, 52, 53, 54, 55, 56, 57, 58, 59] (by decide +kernel) (by decide +kernel)) (goodIn_sub (fun _ h => List.mem_cons_of_mem _ (List.mem_append_left _ (List.mem_append_right _ h))) (by decide +kernel))) (goodIn_sub (fun _ h => List.mem_cons_of_mem _ (List.mem_append_right _ h)) (by decide +kernel))
set_option maxRecDepth 20000 in
theorem gL_addOrder_X0_addOrder : GoodIn wsL_addOrder (wsV RL 43 RX0 yX0_addOrder wsX0_addOrder) := goodIn_app (goodIn_of _ (by decide +kernel)) ggL_addOrder_X0_addOrder
theorem dL_addOrder_0 : decode cL_addOrder 0 = .ok (.aload_n 0, 1) := by decide +kernel
theorem dL_addOrder_1 : decode cL_addOrder 1 = .ok (.iload_n 1, 1) := by decide +kernel
theorem dL_addOrder_2 : decode cL_addOrder 2 = .ok (.iload_n 2, 1) := by decide +kernel
theorem dL_addOrder_3 : decode cL_addOrder 3 = .ok (.iload_n 3, 1) := by decide +kernel
theorem dL_addOrder_4 : decode cL_addOrder 4 = .ok (.iload 4, 2) := by decide +kernel
theorem dL_addOrder_6 : decode cL_addOrder 6 = .ok (.iload 5, 2) := by decide +kernel
theorem dL_addOrder_8 : decode cL_addOrder 8 = .ok (.iload 6, 2) := by decide +kernel
theorem dL_addOrder_10 : decode cL_addOrder 10 = .ok (.iload 7, 2) := by decide +kernel
theorem dL_addOrder_12 : decode cL_addOrder 12 = .ok (.invokevirtual 43, 3) := by decide +kernel
theorem dL_addOrder_15 : decode cL_addOrder 15 = .ok (.ireturn, 1) := by decide +kernel
theorem dL_addOrder_16 : decode cL_addOrder 16 = .ok (.astore 8, 2) := by decide +kernel
theorem dL_addOrder_18 : decode cL_addOrder 18 = .ok (.ldc 18, 2) := by decide +kernel
theorem dL_addOrder_20 : decode cL_addOrder 20 = .ok (.ireturn, 1) := by decide +kernel
theorem dL_addOrder_21 : decode cL_addOrder 21 = .ok (.astore 8, 2) := by decide +kernel
theorem dL_addOrder_23 : decode cL_addOrder 23 = .ok (.ldc 21, 2) := by decide +kernel
theorem dL_addOrder_25 : decode cL_addOrder 25 = .ok (.ireturn, 1) := by decide +kernel
set_option maxRecDepth 20000 in
theorem ggL_close_X0_close : GoodIn wsL_close wsX0_close := goodIn_ca (goodIn_ca (goodIn_r _ [9, 10, 11, 12, 13, 14, 15, 16, 8, 17, 18, 19, 20, 21, 22, 23, 24, 25, 26, 27, 28, 29, 30, 31, 32, 33, 34, 35, 36, 37, 38, 39, 40, 41, 42, 43, 44, 45, 46, 47, 48, 49, 50, 51, 52, 53, 54, 55, 56, 57, 58, 59, 60, 61, 62, 63, 64, 65, 66, 67, 68, 69] (by decide +kernel) (by decide +kernel)) (goodIn_sub (fun _ h => List.mem_cons_of_mem _ (List.mem_append_left _ (List.mem_append_right _ h))) (by decide +kernel))) (goodIn_sub (fun _ h => List.mem_cons_of_mem _ (List.mem_append_right _ h)) (by decide +kernel))
set_option maxRecDepth 20000 in
theorem gL_close_X0_close : GoodIn wsL_close (wsV RL 47 RX0 yX0_close wsX0_close) := goodIn_app (goodIn_of _ (by decide +kernel)) ggL_close_X0_close
theorem dL_close_0 : decode cL_close 0 = .ok (.aload_n 0, 1) := by decide +kernel
theorem dL_close_1 : decode cL_close 1 = .ok (.iload_n 1, 1) := by decide +kernel
theorem dL_close_2 : decode cL_close 2 = .ok (.invokevirtual 47, 3) := by decide +kernel
theorem dL_close_5 : decode cL_close 5 = .ok (.ireturn, 1) := by decide +kernel
theorem dL_close_6 : decode cL_close 6 = .ok (.astore_n 2, 1) := by decide +kernel
theorem dL_close_7 : decode cL_close 7 = .ok (.ldc 28, 2) := by decide +kernel
theorem dL_close_9 : decode cL_close 9 = .ok (.ireturn, 1) := by decide +kernel
theorem dL_close_10 : decode cL_close 10 = .ok (.astore_n 2, 1) := by decide +kernel
theorem dL_close_11 : decode cL_close 11 = .ok (.ldc 21, 2) := by decide +kernel
theorem dL_close_13 : decode cL_close 13 = .ok (.ireturn, 1) := by decide +kernel
set_option maxRecDepth 20000 in
theorem ggL_whyNot_X0_whyNot : GoodIn wsL_whyNot wsX0_whyNot := goodIn_ca (goodIn_r _ [7, 8, 9, 10, 6, 11, 12, 13, 14, 15, 16, 17, 18, 19, 20, 21, 22, 23, 24, 25, 26, 27, 28, 29, 30, 31, 32, 33, 34, 35, 36, 37, 38, 39, 40, 41, 42, 43, 44, 45, 46, 47, 48, 49, 50, 51, 52, 53, 54, 55, 56, 57, 58, 59, 60, 61, 62, 63, 64, 65, 66, 67, 68, 69, 70, 71, 72, 73, 74, 75, 76, 77, 78, 79, 80, 81, 82, 83] (by decide +kernel) (by decide +kernel)) (goodIn_sub (fun _ h => List.mem_cons_of_mem _ (List.mem_append_right _ h)) (by decide +kernel))
set_option maxRecDepth 20000 in
theorem gL_whyNot_X0_whyNot : GoodIn wsL_whyNot (wsV RL 50 RX0 yX0_whyNot wsX0_whyNot) := goodIn_app (goodIn_of _ (by decide +kernel)) ggL_whyNot_X0_whyNot
theorem dL_whyNot_0 : decode cL_whyNot 0 = .ok (.aload_n 0, 1) := by decide +kernel
theorem dL_whyNot_1 : decode cL_whyNot 1 = .ok (.iload_n 1, 1) := by decide +kernel
theorem dL_whyNot_2 : decode cL_whyNot 2 = .ok (.iload_n 2, 1) := by decide +kernel
theorem dL_whyNot_3 : decode cL_whyNot 3 = .ok (.invokevirtual 50, 3) := by decide +kernel
theorem dL_whyNot_6 : decode cL_whyNot 6 = .ok (.ireturn, 1) := by decide +kernel
theorem dL_whyNot_7 : decode cL_whyNot 7 = .ok (.astore_n 3, 1) := by decide +kernel
theorem dL_whyNot_8 : decode cL_whyNot 8 = .ok (.ldc 28, 2) := by decide +kernel
theorem dL_whyNot_10 : decode cL_whyNot 10 = .ok (.ireturn, 1) := by decide +kernel
set_option maxRecDepth 20000 in
theorem ggL_place_X0_place : GoodIn wsL_place wsX0_place := goodIn_ca (goodIn_ca (goodIn_r _ [9, 10, 11, 12, 13, 14, 8, 15, 16, 17, 18, 19, 20, 21, 22, 23, 24, 25, 26, 27, 28, 29, 30, 31, 32, 33, 34, 35, 36, 37, 38, 39, 40, 41, 42, 43, 44, 45, 46, 47, 48, 49, 50, 51, 52, 53, 54, 55, 56, 57, 58, 59, 60, 61, 62, 63, 64, 65, 66, 67, 68, 69, 70, 71, 72, 73, 74, 75, 76, 77, 78, 79, 80, 81, 82, 83, 84, 85, 86, 87, 88, 89, 90, 91, 92, 93, 94, 95, 96] (by decide +kernel) (by decide +kernel)) (goodIn_sub (fun _ h => List.mem_cons_of_mem _ (List.mem_append_left _ (List.mem_append_right _ h))) (by decide +kernel))) (goodIn_sub (fun _ h => List.mem_cons_of_mem _ (List.mem_append_right _ h)) (by decide +kernel))
set_option maxRecDepth 20000 in
theorem gL_place_X0_place : GoodIn wsL_place (wsV RL 53 RX0 yX0_place wsX0_place) := goodIn_app (goodIn_of _ (by decide +kernel)) ggL_place_X0_place
theorem dL_place_0 : decode cL_place 0 = .ok (.aload_n 0, 1) := by decide +kernel
theorem dL_place_1 : decode cL_place 1 = .ok (.iload_n 1, 1) := by decide +kernel
theorem dL_place_2 : decode cL_place 2 = .ok (.iload_n 2, 1) := by decide +kernel
theorem dL_place_3 : decode cL_place 3 = .ok (.invokevirtual 53, 3) := by decide +kernel
theorem dL_place_6 : decode cL_place 6 = .ok (.ireturn, 1) := by decide +kernel
theorem dL_place_7 : decode cL_place 7 = .ok (.astore_n 3, 1) := by decide +kernel
theorem dL_place_8 : decode cL_place 8 = .ok (.ldc 28, 2) := by decide +kernel
theorem dL_place_10 : decode cL_place 10 = .ok (.ireturn, 1) := by decide +kernel
theorem dL_place_11 : decode cL_place 11 = .ok (.astore_n 3, 1) := by decide +kernel
theorem dL_place_12 : decode cL_place 12 = .ok (.ldc 21, 2) := by decide +kernel
theorem dL_place_14 : decode cL_place 14 = .ok (.ireturn, 1) := by decide +kernel
set_option maxRecDepth 20000 in
theorem ggL_give_X0_give : GoodIn wsL_give wsX0_give := goodIn_ca (goodIn_ca (goodIn_r _ [9, 10, 11, 12, 13, 8, 14, 15, 16, 17, 18, 19, 20, 21, 22, 23, 24, 25, 26, 27, 28, 29, 30, 31, 32, 33, 34, 35, 36, 37, 38, 39, 40, 41, 42, 43, 44, 45, 46, 47, 48, 49, 50, 51, 52, 53, 54, 55, 56, 57, 58, 59, 60, 61, 62, 63, 64, 65, 66, 67, 68, 69, 70, 71, 72, 73, 74, 75, 76, 77, 78, 79, 80, 81, 82, 83, 84, 85, 86, 87, 88, 89, 90, 91, 92, 93, 94, 95, 96, 97, 98, 99, 100, 101, 102, 103, 104, 105, 106, 107, 108, 109, 110, 111, 112, 113] (by decide +kernel) (by decide +kernel)) (goodIn_sub (fun _ h => List.mem_cons_of_mem _ (List.mem_append_left _ (List.mem_append_right _ h))) (by decide +kernel))) (goodIn_sub (fun _ h => List.mem_cons_of_mem _ (List.mem_append_right _ h)) (by decide +kernel))
set_option maxRecDepth 20000 in
theorem gL_give_X0_give : GoodIn wsL_give (wsV RL 56 RX0 yX0_give wsX0_give) := goodIn_app (goodIn_of _ (by decide +kernel)) ggL_give_X0_give
theorem dL_give_0 : decode cL_give 0 = .ok (.aload_n 0, 1) := by decide +kernel
theorem dL_give_1 : decode cL_give 1 = .ok (.iload_n 1, 1) := by decide +kernel
theorem dL_give_2 : decode cL_give 2 = .ok (.iload_n 2, 1) := by decide +kernel
theorem dL_give_3 : decode cL_give 3 = .ok (.invokevirtual 56, 3) := by decide +kernel
theorem dL_give_6 : decode cL_give 6 = .ok (.ireturn, 1) := by decide +kernel
theorem dL_give_7 : decode cL_give 7 = .ok (.astore_n 3, 1) := by decide +kernel
theorem dL_give_8 : decode cL_give 8 = .ok (.ldc 28, 2) := by decide +kernel
theorem dL_give_10 : decode cL_give 10 = .ok (.ireturn, 1) := by decide +kernel
theorem dL_give_11 : decode cL_give 11 = .ok (.astore_n 3, 1) := by decide +kernel
theorem dL_give_12 : decode cL_give 12 = .ok (.ldc 21, 2) := by decide +kernel
theorem dL_give_14 : decode cL_give 14 = .ok (.ireturn, 1) := by decide +kernel
set_option maxRecDepth 20000 in
theorem ggL_fill_X0_fill : GoodIn wsL_fill wsX0_fill := goodIn_ca (goodIn_ca (goodIn_ca (goodIn_r _ [11, 12, 13, 14, 15, 16, 10, 17, 18, 19, 20, 21, 22, 23, 24, 25, 26, 27, 28, 29, 30, 31, 32, 33, 34, 35, 36, 37, 38, 39, 40, 41, 42, 43, 44, 45, 46, 47, 48, 49, 50, 51, 52, 53, 54, 55, 56, 57, 58, 59, 60, 61, 62, 63, 64, 65, 66, 67, 68, 69, 70, 71, 72, 73, 74, 75, 76, 77, 78, 79, 80, 81, 82, 83, 84, 85, 86, 87, 88, 89, 90, 91, 92, 93, 94, 95, 96, 97, 98, 99, 100, 101, 102, 103, 104, 105, 106, 107, 108, 109, 110, 111, 112, 113, 114, 115] (by decide +kernel) (by decide +kernel)) (goodIn_sub (fun _ h => List.mem_cons_of_mem _ (List.mem_append_left _ (List.mem_append_left _ (List.mem_append_right _ h)))) (by decide +kernel))) (goodIn_sub (fun _ h => List.mem_cons_of_mem _ (List.mem_append_left _ (List.mem_append_right _ h))) (by decide +kernel))) (goodIn_sub (fun _ h => List.mem_cons_of_mem _ (List.mem_append_right _ h)) (by decide +kernel))
set_option maxRecDepth 20000 in
theorem gL_fill_X0_fill : GoodIn wsL_fill (wsV RL 59 RX0 yX0_fill wsX0_fill) := goodIn_app (goodIn_of _ (by decide +kernel)) ggL_fill_X0_fill
theorem dL_fill_0 : decode cL_fill 0 = .ok (.aload_n 0, 1) := by decide +kernel
theorem dL_fill_1 : decode cL_fill 1 = .ok (.iload_n 1, 1) := by decide +kernel
theorem dL_fill_2 : decode cL_fill 2 = .ok (.iload_n 2, 1) := by decide +kernel
theorem dL_fill_3 : decode cL_fill 3 = .ok (.invokevirtual 59, 3) := by decide +kernel
theorem dL_fill_6 : decode cL_fill 6 = .ok (.ireturn, 1) := by decide +kernel
theorem dL_fill_7 : decode cL_fill 7 = .ok (.astore_n 3, 1) := by decide +kernel
theorem dL_fill_8 : decode cL_fill 8 = .ok (.ldc 28, 2) := by decide +kernel
theorem dL_fill_10 : decode cL_fill 10 = .ok (.ireturn, 1) := by decide +kernel
theorem dL_fill_11 : decode cL_fill 11 = .ok (.astore_n 3, 1) := by decide +kernel
theorem dL_fill_12 : decode cL_fill 12 = .ok (.ldc 18, 2) := by decide +kernel
theorem dL_fill_14 : decode cL_fill 14 = .ok (.ireturn, 1) := by decide +kernel
theorem dL_fill_15 : decode cL_fill 15 = .ok (.astore_n 3, 1) := by decide +kernel
theorem dL_fill_16 : decode cL_fill 16 = .ok (.ldc 21, 2) := by decide +kernel
theorem dL_fill_18 : decode cL_fill 18 = .ok (.ireturn, 1) := by decide +kernel
set_option maxRecDepth 20000 in
theorem ggL_move_X0_move : GoodIn wsL_move wsX0_move := goodIn_ca (goodIn_ca (goodIn_r _ [9, 10, 11, 12, 13, 14, 15, 8, 16, 17, 18, 19, 20, 21, 22, 23, 24, 25, 26, 27, 28, 29, 30, 31, 32, 33, 34, 35, 36, 37, 38, 39, 40, 41, 42, 43, 44, 45, 46, 47, 48, 49, 50, 51, 52, 53, 54, 55, 56, 57, 58, 59, 60, 61, 62, 63, 64, 65, 66, 67, 68, 69, 70, 71, 72, 73, 74, 75, 76, 77, 78, 79, 80, 81, 82, 83, 84, 85, 86, 87, 88, 89] (by decide +kernel) (by decide +kernel)) (goodIn_sub (fun _ h => List.mem_cons_of_mem _ (List.mem_append_left _ (List.mem_append_right _ h))) (by decide +kernel))) (goodIn_sub (fun _ h => List.mem_cons_of_mem _ (List.mem_append_right _ h)) (by decide +kernel))
set_option maxRecDepth 20000 in
theorem gL_move_X0_move : GoodIn wsL_move (wsV RL 62 RX0 yX0_move wsX0_move) := goodIn_app (goodIn_of _ (by decide +kernel)) ggL_move_X0_move
theorem dL_move_0 : decode cL_move 0 = .ok (.aload_n 0, 1) := by decide +kernel
theorem dL_move_1 : decode cL_move 1 = .ok (.iload_n 1, 1) := by decide +kernel
theorem dL_move_2 : decode cL_move 2 = .ok (.iload_n 2, 1) := by decide +kernel
theorem dL_move_3 : decode cL_move 3 = .ok (.invokevirtual 62, 3) := by decide +kernel
theorem dL_move_6 : decode cL_move 6 = .ok (.ireturn, 1) := by decide +kernel
theorem dL_move_7 : decode cL_move 7 = .ok (.astore_n 3, 1) := by decide +kernel
theorem dL_move_8 : decode cL_move 8 = .ok (.ldc 28, 2) := by decide +kernel
theorem dL_move_10 : decode cL_move 10 = .ok (.ireturn, 1) := by decide +kernel
theorem dL_move_11 : decode cL_move 11 = .ok (.astore_n 3, 1) := by decide +kernel
theorem dL_move_12 : decode cL_move 12 = .ok (.ldc 21, 2) := by decide +kernel
theorem dL_move_14 : decode cL_move 14 = .ok (.ireturn, 1) := by decide +kernel
set_option maxRecDepth 20000 in
theorem ggL_miss_X0_miss : GoodIn wsL_miss wsX0_miss := goodIn_ca (goodIn_ca (goodIn_r _ [9, 10, 11, 12, 13, 8, 14, 15, 16, 17, 18, 19, 20, 21, 22, 23, 24, 25, 26, 27, 28, 29, 30, 31, 32, 33, 34, 35, 36, 37, 38, 39, 40, 41, 42, 43, 44, 45, 46, 47] (by decide +kernel) (by decide +kernel)) (goodIn_sub (fun _ h => List.mem_cons_of_mem _ (List.mem_append_left _ (List.mem_append_right _ h))) (by decide +kernel))) (goodIn_sub (fun _ h => List.mem_cons_of_mem _ (List.mem_append_right _ h)) (by decide +kernel))
set_option maxRecDepth 20000 in
theorem gL_miss_X0_miss : GoodIn wsL_miss (wsV RL 65 RX0 yX0_miss wsX0_miss) := goodIn_app (goodIn_of _ (by decide +kernel)) ggL_miss_X0_miss
theorem dL_miss_0 : decode cL_miss 0 = .ok (.aload_n 0, 1) := by decide +kernel
theorem dL_miss_1 : decode cL_miss 1 = .ok (.iload_n 1, 1) := by decide +kernel
theorem dL_miss_2 : decode cL_miss 2 = .ok (.invokevirtual 65, 3) := by decide +kernel
theorem dL_miss_5 : decode cL_miss 5 = .ok (.ifCond .eq 7, 3) := by decide +kernel
theorem dL_miss_8 : decode cL_miss 8 = .ok (.iconst 1, 1) := by decide +kernel
theorem dL_miss_9 : decode cL_miss 9 = .ok (.goto 4, 3) := by decide +kernel
theorem dL_miss_12 : decode cL_miss 12 = .ok (.iconst 0, 1) := by decide +kernel
theorem dL_miss_13 : decode cL_miss 13 = .ok (.ireturn, 1) := by decide +kernel
theorem dL_miss_14 : decode cL_miss 14 = .ok (.astore_n 2, 1) := by decide +kernel
theorem dL_miss_15 : decode cL_miss 15 = .ok (.ldc 28, 2) := by decide +kernel
theorem dL_miss_17 : decode cL_miss 17 = .ok (.ireturn, 1) := by decide +kernel
theorem dL_miss_18 : decode cL_miss 18 = .ok (.astore_n 2, 1) := by decide +kernel
theorem dL_miss_19 : decode cL_miss 19 = .ok (.ldc 21, 2) := by decide +kernel
theorem dL_miss_21 : decode cL_miss 21 = .ok (.ireturn, 1) := by decide +kernel
set_option maxRecDepth 20000 in
theorem ggL_drop_X0_drop : GoodIn wsL_drop wsX0_drop := goodIn_ca (goodIn_ca (goodIn_r _ [9, 10, 11, 12, 13, 8, 14, 15, 16, 17, 18, 19, 20, 21, 22, 23, 24, 25, 26, 27, 28, 29, 30, 31, 32, 33, 34, 35, 36, 37, 38, 39, 40, 41, 42, 43] (by decide +kernel) (by decide +kernel)) (goodIn_sub (fun _ h => List.mem_cons_of_mem _ (List.mem_append_left _ (List.mem_append_right _ h))) (by decide +kernel))) (goodIn_sub (fun _ h => List.mem_cons_of_mem _ (List.mem_append_right _ h)) (by decide +kernel))
set_option maxRecDepth 20000 in
theorem gL_drop_X0_drop : GoodIn wsL_drop (wsV RL 68 RX0 yX0_drop wsX0_drop) := goodIn_app (goodIn_of _ (by decide +kernel)) ggL_drop_X0_drop
theorem dL_drop_0 : decode cL_drop 0 = .ok (.aload_n 0, 1) := by decide +kernel
theorem dL_drop_1 : decode cL_drop 1 = .ok (.iload_n 1, 1) := by decide +kernel
theorem dL_drop_2 : decode cL_drop 2 = .ok (.invokevirtual 68, 3) := by decide +kernel
theorem dL_drop_5 : decode cL_drop 5 = .ok (.iconst 0, 1) := by decide +kernel
theorem dL_drop_6 : decode cL_drop 6 = .ok (.ireturn, 1) := by decide +kernel
theorem dL_drop_7 : decode cL_drop 7 = .ok (.astore_n 2, 1) := by decide +kernel
theorem dL_drop_8 : decode cL_drop 8 = .ok (.ldc 28, 2) := by decide +kernel
theorem dL_drop_10 : decode cL_drop 10 = .ok (.ireturn, 1) := by decide +kernel
theorem dL_drop_11 : decode cL_drop 11 = .ok (.astore_n 2, 1) := by decide +kernel
theorem dL_drop_12 : decode cL_drop 12 = .ok (.ldc 21, 2) := by decide +kernel
theorem dL_drop_14 : decode cL_drop 14 = .ok (.ireturn, 1) := by decide +kernel
set_option maxRecDepth 20000 in
theorem ggL_stateOf_X0_stateOf : GoodIn wsL_stateOf wsX0_stateOf := goodIn_ca (goodIn_r _ [7, 8, 9, 10, 11, 6, 12, 13, 14, 15, 16, 17, 18, 19, 20, 21, 22, 23, 24, 25, 26, 27, 28, 29, 30, 31, 32, 33, 34, 35, 36] (by decide +kernel) (by decide +kernel)) (goodIn_sub (fun _ h => List.mem_cons_of_mem _ (List.mem_append_right _ h)) (by decide +kernel))
set_option maxRecDepth 20000 in
theorem gL_stateOf_X0_stateOf : GoodIn wsL_stateOf (wsV RL 72 RX0 yX0_stateOf wsX0_stateOf) := goodIn_app (goodIn_of _ (by decide +kernel)) ggL_stateOf_X0_stateOf
theorem dL_stateOf_0 : decode cL_stateOf 0 = .ok (.aload_n 0, 1) := by decide +kernel
theorem dL_stateOf_1 : decode cL_stateOf 1 = .ok (.iload_n 1, 1) := by decide +kernel
theorem dL_stateOf_2 : decode cL_stateOf 2 = .ok (.invokevirtual 72, 3) := by decide +kernel
theorem dL_stateOf_5 : decode cL_stateOf 5 = .ok (.ireturn, 1) := by decide +kernel
theorem dL_stateOf_6 : decode cL_stateOf 6 = .ok (.astore_n 2, 1) := by decide +kernel
theorem dL_stateOf_7 : decode cL_stateOf 7 = .ok (.ldc 28, 2) := by decide +kernel
theorem dL_stateOf_9 : decode cL_stateOf 9 = .ok (.ireturn, 1) := by decide +kernel
set_option maxRecDepth 20000 in
theorem ggL_breakOf_X0_breakOf : GoodIn wsL_breakOf wsX0_breakOf := goodIn_ca (goodIn_r _ [7, 8, 9, 10, 11, 6, 12, 13, 14, 15, 16, 17, 18, 19, 20, 21, 22, 23, 24, 25, 26, 27, 28, 29, 30, 31, 32, 33, 34, 35, 36] (by decide +kernel) (by decide +kernel)) (goodIn_sub (fun _ h => List.mem_cons_of_mem _ (List.mem_append_right _ h)) (by decide +kernel))
set_option maxRecDepth 20000 in
theorem gL_breakOf_X0_breakOf : GoodIn wsL_breakOf (wsV RL 75 RX0 yX0_breakOf wsX0_breakOf) := goodIn_app (goodIn_of _ (by decide +kernel)) ggL_breakOf_X0_breakOf
theorem dL_breakOf_0 : decode cL_breakOf 0 = .ok (.aload_n 0, 1) := by decide +kernel
theorem dL_breakOf_1 : decode cL_breakOf 1 = .ok (.iload_n 1, 1) := by decide +kernel
theorem dL_breakOf_2 : decode cL_breakOf 2 = .ok (.invokevirtual 75, 3) := by decide +kernel
theorem dL_breakOf_5 : decode cL_breakOf 5 = .ok (.ireturn, 1) := by decide +kernel
theorem dL_breakOf_6 : decode cL_breakOf 6 = .ok (.astore_n 2, 1) := by decide +kernel
theorem dL_breakOf_7 : decode cL_breakOf 7 = .ok (.ldc 28, 2) := by decide +kernel
theorem dL_breakOf_9 : decode cL_breakOf 9 = .ok (.ireturn, 1) := by decide +kernel
set_option maxRecDepth 20000 in
theorem ggL_delivered_X0_delivered : GoodIn wsL_delivered wsX0_delivered := goodIn_ca (goodIn_r _ [7, 8, 9, 10, 6, 11, 12, 13, 14, 15, 16, 17, 18, 19, 20, 21, 22, 23, 24, 25, 26, 27, 28, 29, 30, 31, 32, 33, 34, 35, 36, 37, 38, 39, 40, 41, 42, 43, 44, 45, 46, 47, 48, 49, 50, 51, 52] (by decide +kernel) (by decide +kernel)) (goodIn_sub (fun _ h => List.mem_cons_of_mem _ (List.mem_append_right _ h)) (by decide +kernel))
set_option maxRecDepth 20000 in
theorem gL_delivered_X0_delivered : GoodIn wsL_delivered (wsV RL 78 RX0 yX0_delivered wsX0_delivered) := goodIn_app (goodIn_of _ (by decide +kernel)) ggL_delivered_X0_delivered
theorem dL_delivered_0 : decode cL_delivered 0 = .ok (.aload_n 0, 1) := by decide +kernel
theorem dL_delivered_1 : decode cL_delivered 1 = .ok (.iload_n 1, 1) := by decide +kernel
theorem dL_delivered_2 : decode cL_delivered 2 = .ok (.invokevirtual 78, 3) := by decide +kernel
theorem dL_delivered_5 : decode cL_delivered 5 = .ok (.ireturn, 1) := by decide +kernel
theorem dL_delivered_6 : decode cL_delivered 6 = .ok (.astore_n 2, 1) := by decide +kernel
theorem dL_delivered_7 : decode cL_delivered 7 = .ok (.ldc 28, 2) := by decide +kernel
theorem dL_delivered_9 : decode cL_delivered 9 = .ok (.ireturn, 1) := by decide +kernel
set_option maxRecDepth 20000 in
theorem ggL_owed_X0_owed : GoodIn wsL_owed wsX0_owed := goodIn_ca (goodIn_r _ [7, 8, 9, 10, 6, 11, 12, 13, 14, 15, 16, 17, 18, 19, 20, 21, 22, 23, 24, 25, 26, 27, 28, 29, 30, 31, 32, 33, 34, 35, 36, 37, 38, 39, 40, 41, 42, 43, 44, 45, 46, 47, 48, 49, 50, 51, 52, 53, 54, 55, 56, 57, 58, 59, 60, 61, 62] (by decide +kernel) (by decide +kernel)) (goodIn_sub (fun _ h => List.mem_cons_of_mem _ (List.mem_append_right _ h)) (by decide +kernel))
set_option maxRecDepth 20000 in
theorem gL_owed_X0_owed : GoodIn wsL_owed (wsV RL 81 RX0 yX0_owed wsX0_owed) := goodIn_app (goodIn_of _ (by decide +kernel)) ggL_owed_X0_owed
theorem dL_owed_0 : decode cL_owed 0 = .ok (.aload_n 0, 1) := by decide +kernel
theorem dL_owed_1 : decode cL_owed 1 = .ok (.iload_n 1, 1) := by decide +kernel
theorem dL_owed_2 : decode cL_owed 2 = .ok (.invokevirtual 81, 3) := by decide +kernel
theorem dL_owed_5 : decode cL_owed 5 = .ok (.ireturn, 1) := by decide +kernel
theorem dL_owed_6 : decode cL_owed 6 = .ok (.astore_n 2, 1) := by decide +kernel
theorem dL_owed_7 : decode cL_owed 7 = .ok (.ldc 28, 2) := by decide +kernel
theorem dL_owed_9 : decode cL_owed 9 = .ok (.ireturn, 1) := by decide +kernel
set_option maxRecDepth 20000 in
theorem ggL_rest_X0_rest : GoodIn wsL_rest wsX0_rest := goodIn_ca (goodIn_r _ [7, 8, 9, 10, 6, 11, 12, 13, 14, 15, 16, 17, 18, 19, 20, 21, 22, 23, 24, 25, 26, 27, 28, 29, 30, 31, 32, 33, 34, 35, 36, 37, 38, 39, 40, 41, 42, 43, 44, 45, 46, 47, 48, 49, 50, 51, 52, 53, 54, 55, 56, 57, 58, 59, 60, 61, 62, 63, 64, 65, 66, 67] (by decide +kernel) (by decide +kernel)) (goodIn_sub (fun _ h => List.mem_cons_of_mem _ (List.mem_append_right _ h)) (by decide +kernel))
set_option maxRecDepth 20000 in
theorem gL_rest_X0_rest : GoodIn wsL_rest (wsV RL 84 RX0 yX0_rest wsX0_rest) := goodIn_app (goodIn_of _ (by decide +kernel)) ggL_rest_X0_rest
theorem dL_rest_0 : decode cL_rest 0 = .ok (.aload_n 0, 1) := by decide +kernel
theorem dL_rest_1 : decode cL_rest 1 = .ok (.iload_n 1, 1) := by decide +kernel
theorem dL_rest_2 : decode cL_rest 2 = .ok (.invokevirtual 84, 3) := by decide +kernel
theorem dL_rest_5 : decode cL_rest 5 = .ok (.ireturn, 1) := by decide +kernel
theorem dL_rest_6 : decode cL_rest 6 = .ok (.astore_n 2, 1) := by decide +kernel
theorem dL_rest_7 : decode cL_rest 7 = .ok (.ldc 28, 2) := by decide +kernel
theorem dL_rest_9 : decode cL_rest 9 = .ok (.ireturn, 1) := by decide +kernel
set_option maxRecDepth 20000 in
theorem ggL_bill_X0_bill : GoodIn wsL_bill wsX0_bill := goodIn_ca (goodIn_r _ [7, 8, 9, 10, 6, 11, 12, 13, 14, 15, 16, 17, 18, 19, 20, 21, 22, 23, 24, 25, 26, 27, 28, 29, 30, 31, 32, 33, 34, 35, 36, 37, 38, 39, 40, 41, 42, 43, 44] (by decide +kernel) (by decide +kernel)) (goodIn_sub (fun _ h => List.mem_cons_of_mem _ (List.mem_append_right _ h)) (by decide +kernel))
set_option maxRecDepth 20000 in
theorem gL_bill_X0_bill : GoodIn wsL_bill (wsV RL 87 RX0 yX0_bill wsX0_bill) := goodIn_app (goodIn_of _ (by decide +kernel)) ggL_bill_X0_bill
theorem dL_bill_0 : decode cL_bill 0 = .ok (.aload_n 0, 1) := by decide +kernel
theorem dL_bill_1 : decode cL_bill 1 = .ok (.iload_n 1, 1) := by decide +kernel
theorem dL_bill_2 : decode cL_bill 2 = .ok (.invokevirtual 87, 3) := by decide +kernel
theorem dL_bill_5 : decode cL_bill 5 = .ok (.ireturn, 1) := by decide +kernel
theorem dL_bill_6 : decode cL_bill 6 = .ok (.astore_n 2, 1) := by decide +kernel
theorem dL_bill_7 : decode cL_bill 7 = .ok (.ldc 28, 2) := by decide +kernel
theorem dL_bill_9 : decode cL_bill 9 = .ok (.ireturn, 1) := by decide +kernel
set_option maxRecDepth 20000 in
theorem ggL_billTo_X0_billTo : GoodIn wsL_billTo wsX0_billTo := goodIn_ca (goodIn_r _ [7, 8, 9, 10, 11, 6, 12, 13, 14, 15, 16, 17, 18, 19, 20, 21, 22, 23, 24, 25, 26, 27, 28, 29, 30, 31, 32, 33, 34, 35, 36, 37, 38, 39, 40, 41, 42, 43, 44, 45, 46, 47] (by decide +kernel) (by decide +kernel)) (goodIn_sub (fun _ h => List.mem_cons_of_mem _ (List.mem_append_right _ h)) (by decide +kernel))
set_option maxRecDepth 20000 in
theorem gL_billTo_X0_billTo : GoodIn wsL_billTo (wsV RL 90 RX0 yX0_billTo wsX0_billTo) := goodIn_app (goodIn_of _ (by decide +kernel)) ggL_billTo_X0_billTo
theorem dL_billTo_0 : decode cL_billTo 0 = .ok (.aload_n 0, 1) := by decide +kernel
theorem dL_billTo_1 : decode cL_billTo 1 = .ok (.iload_n 1, 1) := by decide +kernel
theorem dL_billTo_2 : decode cL_billTo 2 = .ok (.invokevirtual 90, 3) := by decide +kernel
theorem dL_billTo_5 : decode cL_billTo 5 = .ok (.ireturn, 1) := by decide +kernel
theorem dL_billTo_6 : decode cL_billTo 6 = .ok (.astore_n 2, 1) := by decide +kernel
theorem dL_billTo_7 : decode cL_billTo 7 = .ok (.ldc 18, 2) := by decide +kernel
theorem dL_billTo_9 : decode cL_billTo 9 = .ok (.ireturn, 1) := by decide +kernel
set_option maxRecDepth 20000 in
theorem ggL_stands_L_stateOf : GoodIn wsL_stands wsL_stateOf := goodIn_ca (goodIn_r _ [4, 5, 6, 7, 8, 9, 10, 11, 12, 13, 14, 15, 16, 17, 18, 19, 20, 21, 22, 23, 24, 25, 26, 27, 28, 29, 30, 31, 32, 33, 34, 35, 36, 37, 38, 39, 40] (by decide +kernel) (by decide +kernel)) (goodIn_sub (fun _ h => List.mem_cons_of_mem _ (List.mem_append_right _ h)) (by decide +kernel))
set_option maxRecDepth 20000 in
theorem gL_stands_L_stateOf : GoodIn wsL_stands (va_wsS RL 93 yL_stateOf wsL_stateOf) := goodIn_app (goodIn_of _ (by decide +kernel)) ggL_stands_L_stateOf
theorem dL_stands_0 : decode cL_stands 0 = .ok (.aload_n 0, 1) := by decide +kernel
theorem dL_stands_1 : decode cL_stands 1 = .ok (.iload_n 1, 1) := by decide +kernel
theorem dL_stands_2 : decode cL_stands 2 = .ok (.invokestatic 93, 3) := by decide +kernel
theorem dL_stands_5 : decode cL_stands 5 = .ok (.ifCond .eq 12, 3) := by decide +kernel
theorem dL_stands_8 : decode cL_stands 8 = .ok (.aload_n 0, 1) := by decide +kernel
theorem dL_stands_9 : decode cL_stands 9 = .ok (.iload_n 1, 1) := by decide +kernel
theorem dL_stands_10 : decode cL_stands 10 = .ok (.invokestatic 93, 3) := by decide +kernel
theorem dL_stands_13 : decode cL_stands 13 = .ok (.iconst 1, 1) := by decide +kernel
theorem dL_stands_14 : decode cL_stands 14 = .ok (.if_icmp .ne 7, 3) := by decide +kernel
theorem dL_stands_17 : decode cL_stands 17 = .ok (.iconst 1, 1) := by decide +kernel
theorem dL_stands_18 : decode cL_stands 18 = .ok (.goto 4, 3) := by decide +kernel
theorem dL_stands_21 : decode cL_stands 21 = .ok (.iconst 0, 1) := by decide +kernel
theorem dL_stands_22 : decode cL_stands 22 = .ok (.ireturn, 1) := by decide +kernel
set_option maxRecDepth 20000 in
theorem ggL_breaks_L_stands : GoodIn wsL_breaks wsL_stands := goodIn_ca (goodIn_r _ [5, 6, 7, 4, 8, 9, 1, 10, 11, 12, 13, 14, 15, 16, 17, 18, 19, 20, 21, 22, 23, 24, 25, 78, 79, 80, 81, 82, 83, 84, 85, 86, 87, 88, 89, 90, 91, 92, 93, 94, 95] (by decide +kernel) (by decide +kernel)) (goodIn_sub (fun _ h => List.mem_cons_of_mem _ (List.mem_append_right _ h)) (by decide +kernel))
set_option maxRecDepth 20000 in
theorem gL_breaks_L_stands : GoodIn wsL_breaks (va_wsS RL 98 yL_stands wsL_stands) := goodIn_app (goodIn_of _ (by decide +kernel)) ggL_breaks_L_stands
set_option maxRecDepth 20000 in
theorem ggL_breaks_L_breakOf : GoodIn wsL_breaks wsL_breakOf := goodIn_ca (goodIn_r _ [28, 9, 1, 29, 30, 31, 13, 32, 33, 16, 17, 18, 19, 20, 21, 22, 23, 24, 25, 78, 79, 80, 81, 82, 83, 84, 85, 86, 87, 88, 89, 90, 91, 92, 93, 94, 95] (by decide +kernel) (by decide +kernel)) (goodIn_sub (fun _ h => List.mem_cons_of_mem _ (List.mem_append_right _ h)) (by decide +kernel))
set_option maxRecDepth 20000 in
theorem gL_breaks_L_breakOf : GoodIn wsL_breaks (va_wsS RL 102 yL_breakOf wsL_breakOf) := goodIn_app (goodIn_of _ (by decide +kernel)) ggL_breaks_L_breakOf
set_option maxRecDepth 20000 in
theorem ggL_breaks_L_room : GoodIn wsL_breaks wsL_room := goodIn_ca (goodIn_r _ [36, 9, 1, 37, 38, 39, 13, 40, 41, 42, 43, 44, 45, 21, 22, 23, 24, 25, 46, 47, 48, 49, 50, 20, 33, 51, 52, 53, 54, 55, 56, 15, 78, 79, 80, 81, 82, 83, 84, 85, 86, 87, 88, 89, 90, 91, 92, 93, 94, 95] (by decide +kernel) (by decide +kernel)) (goodIn_sub (fun _ h => List.mem_cons_of_mem _ (List.mem_append_right _ h)) (by decide +kernel))
set_option maxRecDepth 20000 in
theorem gL_breaks_L_room : GoodIn wsL_breaks (va_wsS RL 104 yL_room wsL_room) := goodIn_app (goodIn_of _ (by decide +kernel)) ggL_breaks_L_room
set_option maxRecDepth 20000 in
theorem ggL_breaks_L_stateOf : GoodIn wsL_breaks wsL_stateOf := goodIn_ca (goodIn_r _ [8, 9, 1, 10, 11, 12, 13, 14, 15, 16, 17, 18, 19, 20, 21, 22, 23, 24, 25, 78, 79, 80, 81, 82, 83, 84, 85, 86, 87, 88, 89, 90, 91, 92, 93, 94, 95] (by decide +kernel) (by decide +kernel)) (goodIn_sub (fun _ h => List.mem_cons_of_mem _ (List.mem_append_right _ h)) (by decide +kernel))
set_option maxRecDepth 20000 in
theorem gL_breaks_L_stateOf : GoodIn wsL_breaks (va_wsS RL 93 yL_stateOf wsL_stateOf) := goodIn_app (goodIn_of _ (by decide +kernel)) ggL_breaks_L_stateOf
set_option maxRecDepth 20000 in
theorem ggL_breaks_L_isAired : GoodIn wsL_breaks wsL_isAired := goodIn_ca (goodIn_r _ [59, 9, 1, 60, 61, 62, 13, 63, 64, 41, 42, 43, 44, 45, 21, 22, 23, 24, 25, 78, 79, 80, 81, 82, 83, 84, 85, 86, 87, 88, 89, 90, 91, 92, 93, 94, 95] (by decide +kernel) (by decide +kernel)) (goodIn_sub (fun _ h => List.mem_cons_of_mem _ (List.mem_append_right _ h)) (by decide +kernel))
set_option maxRecDepth 20000 in
theorem gL_breaks_L_isAired : GoodIn wsL_breaks (va_wsS RL 106 yL_isAired wsL_isAired) := goodIn_app (goodIn_of _ (by decide +kernel)) ggL_breaks_L_isAired
set_option maxRecDepth 20000 in
theorem ggL_breaks_X0_breaks : GoodIn wsL_breaks wsX0_breaks := goodIn_r _ [68, 45, 78, 79, 80, 81, 82, 83, 84, 85, 86, 87, 88, 89, 90, 91, 92, 93, 94, 95] (by decide +kernel) (by decide +kernel)
set_option maxRecDepth 20000 in
theorem gL_breaks_X0_breaks : GoodIn wsL_breaks (wsV RL 108 RX0 yX0_breaks wsX0_breaks) := goodIn_app (goodIn_of _ (by decide +kernel)) ggL_breaks_X0_breaks
set_option maxRecDepth 20000 in
theorem ggL_breaks_X0_orders : GoodIn wsL_breaks wsX0_orders := goodIn_r _ [72, 73, 78, 79, 80, 81, 82, 83, 84, 85, 86, 87, 88, 89, 90, 91, 92, 93, 94, 95] (by decide +kernel) (by decide +kernel)
set_option maxRecDepth 20000 in
theorem gL_breaks_X0_orders : GoodIn wsL_breaks (wsV RL 112 RX0 yX0_orders wsX0_orders) := goodIn_app (goodIn_of _ (by decide +kernel)) ggL_breaks_X0_orders
set_option maxRecDepth 20000 in
theorem ggL_breaks_X0_spots : GoodIn wsL_breaks wsX0_spots := goodIn_r _ [77, 20, 78, 79, 80, 81, 82, 83, 84, 85, 86, 87, 88, 89, 90, 91, 92, 93, 94, 95] (by decide +kernel) (by decide +kernel)
set_option maxRecDepth 20000 in
theorem gL_breaks_X0_spots : GoodIn wsL_breaks (wsV RL 115 RX0 yX0_spots wsX0_spots) := goodIn_app (goodIn_of _ (by decide +kernel)) ggL_breaks_X0_spots
theorem dL_breaks_0 : decode cL_breaks 0 = .ok (.iconst 0, 1) := by decide +kernel
theorem dL_breaks_1 : decode cL_breaks 1 = .ok (.istore 5, 2) := by decide +kernel
theorem dL_breaks_3 : decode cL_breaks 3 = .ok (.iload 5, 2) := by decide +kernel
theorem dL_breaks_5 : decode cL_breaks 5 = .ok (.aload 4, 2) := by decide +kernel
theorem dL_breaks_7 : decode cL_breaks 7 = .ok (.iconst 0, 1) := by decide +kernel
theorem dL_breaks_8 : decode cL_breaks 8 = .ok (.iaload, 1) := by decide +kernel
theorem dL_breaks_9 : decode cL_breaks 9 = .ok (.if_icmp .ge 94, 3) := by decide +kernel
theorem dL_breaks_12 : decode cL_breaks 12 = .ok (.aload_n 2, 1) := by decide +kernel
theorem dL_breaks_13 : decode cL_breaks 13 = .ok (.iload 5, 2) := by decide +kernel
theorem dL_breaks_15 : decode cL_breaks 15 = .ok (.iaload, 1) := by decide +kernel
theorem dL_breaks_16 : decode cL_breaks 16 = .ok (.istore 6, 2) := by decide +kernel
theorem dL_breaks_18 : decode cL_breaks 18 = .ok (.iconst 0, 1) := by decide +kernel
theorem dL_breaks_19 : decode cL_breaks 19 = .ok (.istore 7, 2) := by decide +kernel
theorem dL_breaks_21 : decode cL_breaks 21 = .ok (.iload 7, 2) := by decide +kernel
theorem dL_breaks_23 : decode cL_breaks 23 = .ok (.aload 4, 2) := by decide +kernel
theorem dL_breaks_25 : decode cL_breaks 25 = .ok (.iconst 2, 1) := by decide +kernel
theorem dL_breaks_26 : decode cL_breaks 26 = .ok (.iaload, 1) := by decide +kernel
theorem dL_breaks_27 : decode cL_breaks 27 = .ok (.if_icmp .ge 52, 3) := by decide +kernel
theorem dL_breaks_30 : decode cL_breaks 30 = .ok (.iload 6, 2) := by decide +kernel
theorem dL_breaks_32 : decode cL_breaks 32 = .ok (.aload_n 0, 1) := by decide +kernel
theorem dL_breaks_33 : decode cL_breaks 33 = .ok (.iload 7, 2) := by decide +kernel
theorem dL_breaks_35 : decode cL_breaks 35 = .ok (.invokestatic 98, 3) := by decide +kernel
theorem dL_breaks_38 : decode cL_breaks 38 = .ok (.ifCond .eq 31, 3) := by decide +kernel
theorem dL_breaks_41 : decode cL_breaks 41 = .ok (.aload_n 0, 1) := by decide +kernel
theorem dL_breaks_42 : decode cL_breaks 42 = .ok (.iload 7, 2) := by decide +kernel
theorem dL_breaks_44 : decode cL_breaks 44 = .ok (.invokestatic 102, 3) := by decide +kernel
theorem dL_breaks_47 : decode cL_breaks 47 = .ok (.iload 5, 2) := by decide +kernel
theorem dL_breaks_49 : decode cL_breaks 49 = .ok (.if_icmp .ne 20, 3) := by decide +kernel
theorem dL_breaks_52 : decode cL_breaks 52 = .ok (.aload_n 1, 1) := by decide +kernel
theorem dL_breaks_53 : decode cL_breaks 53 = .ok (.bipush 7, 2) := by decide +kernel
theorem dL_breaks_55 : decode cL_breaks 55 = .ok (.aload_n 3, 1) := by decide +kernel
theorem dL_breaks_56 : decode cL_breaks 56 = .ok (.iload 7, 2) := by decide +kernel
theorem dL_breaks_58 : decode cL_breaks 58 = .ok (.iaload, 1) := by decide +kernel
theorem dL_breaks_59 : decode cL_breaks 59 = .ok (.bipush 32, 2) := by decide +kernel
theorem dL_breaks_61 : decode cL_breaks 61 = .ok (.irem, 1) := by decide +kernel
theorem dL_breaks_62 : decode cL_breaks 62 = .ok (.imul, 1) := by decide +kernel
theorem dL_breaks_63 : decode cL_breaks 63 = .ok (.iconst 3, 1) := by decide +kernel
theorem dL_breaks_64 : decode cL_breaks 64 = .ok (.iadd, 1) := by decide +kernel
theorem dL_breaks_65 : decode cL_breaks 65 = .ok (.iaload, 1) := by decide +kernel
theorem dL_breaks_66 : decode cL_breaks 66 = .ok (.goto 4, 3) := by decide +kernel
theorem dL_breaks_69 : decode cL_breaks 69 = .ok (.iconst 0, 1) := by decide +kernel
theorem dL_breaks_70 : decode cL_breaks 70 = .ok (.isub, 1) := by decide +kernel
theorem dL_breaks_71 : decode cL_breaks 71 = .ok (.istore 6, 2) := by decide +kernel
theorem dL_breaks_73 : decode cL_breaks 73 = .ok (.iinc 7 1, 3) := by decide +kernel
theorem dL_breaks_76 : decode cL_breaks 76 = .ok (.goto (-55), 3) := by decide +kernel
theorem dL_breaks_79 : decode cL_breaks 79 = .ok (.aload_n 0, 1) := by decide +kernel
theorem dL_breaks_80 : decode cL_breaks 80 = .ok (.iload 5, 2) := by decide +kernel
theorem dL_breaks_82 : decode cL_breaks 82 = .ok (.invokestatic 104, 3) := by decide +kernel
theorem dL_breaks_85 : decode cL_breaks 85 = .ok (.iload 6, 2) := by decide +kernel
theorem dL_breaks_87 : decode cL_breaks 87 = .ok (.if_icmp .ne 8, 3) := by decide +kernel
theorem dL_breaks_90 : decode cL_breaks 90 = .ok (.iload 6, 2) := by decide +kernel
theorem dL_breaks_92 : decode cL_breaks 92 = .ok (.ifCond .ge 5, 3) := by decide +kernel
theorem dL_breaks_95 : decode cL_breaks 95 = .ok (.iconst 0, 1) := by decide +kernel
theorem dL_breaks_96 : decode cL_breaks 96 = .ok (.ireturn, 1) := by decide +kernel
theorem dL_breaks_97 : decode cL_breaks 97 = .ok (.iinc 5 1, 3) := by decide +kernel
theorem dL_breaks_100 : decode cL_breaks 100 = .ok (.goto (-97), 3) := by decide +kernel
theorem dL_breaks_103 : decode cL_breaks 103 = .ok (.iconst 0, 1) := by decide +kernel
theorem dL_breaks_104 : decode cL_breaks 104 = .ok (.istore 5, 2) := by decide +kernel
theorem dL_breaks_106 : decode cL_breaks 106 = .ok (.iload 5, 2) := by decide +kernel
theorem dL_breaks_108 : decode cL_breaks 108 = .ok (.aload 4, 2) := by decide +kernel
theorem dL_breaks_110 : decode cL_breaks 110 = .ok (.iconst 2, 1) := by decide +kernel
theorem dL_breaks_111 : decode cL_breaks 111 = .ok (.iaload, 1) := by decide +kernel
theorem dL_breaks_112 : decode cL_breaks 112 = .ok (.if_icmp .ge 250, 3) := by decide +kernel
theorem dL_breaks_115 : decode cL_breaks 115 = .ok (.aload_n 0, 1) := by decide +kernel
theorem dL_breaks_116 : decode cL_breaks 116 = .ok (.iload 5, 2) := by decide +kernel
theorem dL_breaks_118 : decode cL_breaks 118 = .ok (.invokestatic 102, 3) := by decide +kernel
theorem dL_breaks_121 : decode cL_breaks 121 = .ok (.istore 6, 2) := by decide +kernel
theorem dL_breaks_123 : decode cL_breaks 123 = .ok (.aload_n 0, 1) := by decide +kernel
theorem dL_breaks_124 : decode cL_breaks 124 = .ok (.iload 5, 2) := by decide +kernel
theorem dL_breaks_126 : decode cL_breaks 126 = .ok (.invokestatic 93, 3) := by decide +kernel
theorem dL_breaks_129 : decode cL_breaks 129 = .ok (.istore 7, 2) := by decide +kernel
theorem dL_breaks_131 : decode cL_breaks 131 = .ok (.iload 6, 2) := by decide +kernel
theorem dL_breaks_133 : decode cL_breaks 133 = .ok (.ifCond .lt 53, 3) := by decide +kernel
theorem dL_breaks_136 : decode cL_breaks 136 = .ok (.iload 6, 2) := by decide +kernel
theorem dL_breaks_138 : decode cL_breaks 138 = .ok (.aload 4, 2) := by decide +kernel
theorem dL_breaks_140 : decode cL_breaks 140 = .ok (.iconst 0, 1) := by decide +kernel
theorem dL_breaks_141 : decode cL_breaks 141 = .ok (.iaload, 1) := by decide +kernel
theorem dL_breaks_142 : decode cL_breaks 142 = .ok (.if_icmp .ge 44, 3) := by decide +kernel
theorem dL_breaks_145 : decode cL_breaks 145 = .ok (.iload 7, 2) := by decide +kernel
theorem dL_breaks_147 : decode cL_breaks 147 = .ok (.ifCond .lt 39, 3) := by decide +kernel
theorem dL_breaks_150 : decode cL_breaks 150 = .ok (.iload 7, 2) := by decide +kernel
theorem dL_breaks_152 : decode cL_breaks 152 = .ok (.iconst 3, 1) := by decide +kernel
theorem dL_breaks_153 : decode cL_breaks 153 = .ok (.if_icmp .gt 33, 3) := by decide +kernel
theorem dL_breaks_156 : decode cL_breaks 156 = .ok (.iload 7, 2) := by decide +kernel
theorem dL_breaks_158 : decode cL_breaks 158 = .ok (.ifCond .ne 12, 3) := by decide +kernel
theorem dL_breaks_161 : decode cL_breaks 161 = .ok (.aload_n 0, 1) := by decide +kernel
theorem dL_breaks_162 : decode cL_breaks 162 = .ok (.iload 6, 2) := by decide +kernel
theorem dL_breaks_164 : decode cL_breaks 164 = .ok (.invokestatic 106, 3) := by decide +kernel
theorem dL_breaks_167 : decode cL_breaks 167 = .ok (.ifCond .ne 19, 3) := by decide +kernel
theorem dL_breaks_170 : decode cL_breaks 170 = .ok (.iload 7, 2) := by decide +kernel
theorem dL_breaks_172 : decode cL_breaks 172 = .ok (.iconst 1, 1) := by decide +kernel
theorem dL_breaks_173 : decode cL_breaks 173 = .ok (.if_icmp .ne 15, 3) := by decide +kernel
theorem dL_breaks_176 : decode cL_breaks 176 = .ok (.aload_n 0, 1) := by decide +kernel
theorem dL_breaks_177 : decode cL_breaks 177 = .ok (.iload 6, 2) := by decide +kernel
theorem dL_breaks_179 : decode cL_breaks 179 = .ok (.invokestatic 106, 3) := by decide +kernel
theorem dL_breaks_182 : decode cL_breaks 182 = .ok (.iconst 1, 1) := by decide +kernel
theorem dL_breaks_183 : decode cL_breaks 183 = .ok (.if_icmp .eq 5, 3) := by decide +kernel
theorem dL_breaks_186 : decode cL_breaks 186 = .ok (.iconst 0, 1) := by decide +kernel
theorem dL_breaks_187 : decode cL_breaks 187 = .ok (.ireturn, 1) := by decide +kernel
theorem dL_breaks_188 : decode cL_breaks 188 = .ok (.iconst 0, 1) := by decide +kernel
theorem dL_breaks_189 : decode cL_breaks 189 = .ok (.istore 8, 2) := by decide +kernel
theorem dL_breaks_191 : decode cL_breaks 191 = .ok (.iload 8, 2) := by decide +kernel
theorem dL_breaks_193 : decode cL_breaks 193 = .ok (.iload 5, 2) := by decide +kernel
theorem dL_breaks_195 : decode cL_breaks 195 = .ok (.if_icmp .ge 161, 3) := by decide +kernel
theorem dL_breaks_198 : decode cL_breaks 198 = .ok (.aload_n 0, 1) := by decide +kernel
theorem dL_breaks_199 : decode cL_breaks 199 = .ok (.iload 5, 2) := by decide +kernel
theorem dL_breaks_201 : decode cL_breaks 201 = .ok (.invokestatic 98, 3) := by decide +kernel
theorem dL_breaks_204 : decode cL_breaks 204 = .ok (.ifCond .eq 146, 3) := by decide +kernel
theorem dL_breaks_207 : decode cL_breaks 207 = .ok (.aload_n 0, 1) := by decide +kernel
theorem dL_breaks_208 : decode cL_breaks 208 = .ok (.iload 8, 2) := by decide +kernel
theorem dL_breaks_210 : decode cL_breaks 210 = .ok (.invokestatic 98, 3) := by decide +kernel
theorem dL_breaks_213 : decode cL_breaks 213 = .ok (.ifCond .eq 137, 3) := by decide +kernel
theorem dL_breaks_216 : decode cL_breaks 216 = .ok (.iload 6, 2) := by decide +kernel
theorem dL_breaks_218 : decode cL_breaks 218 = .ok (.aload_n 0, 1) := by decide +kernel
theorem dL_breaks_219 : decode cL_breaks 219 = .ok (.iload 8, 2) := by decide +kernel
theorem dL_breaks_221 : decode cL_breaks 221 = .ok (.invokestatic 102, 3) := by decide +kernel
theorem dL_breaks_224 : decode cL_breaks 224 = .ok (.if_icmp .le 15, 3) := by decide +kernel
theorem dL_breaks_227 : decode cL_breaks 227 = .ok (.iload 6, 2) := by decide +kernel
theorem dL_breaks_229 : decode cL_breaks 229 = .ok (.aload_n 0, 1) := by decide +kernel
theorem dL_breaks_230 : decode cL_breaks 230 = .ok (.iload 8, 2) := by decide +kernel
theorem dL_breaks_232 : decode cL_breaks 232 = .ok (.invokestatic 102, 3) := by decide +kernel
theorem dL_breaks_235 : decode cL_breaks 235 = .ok (.isub, 1) := by decide +kernel
theorem dL_breaks_236 : decode cL_breaks 236 = .ok (.goto 12, 3) := by decide +kernel
theorem dL_breaks_239 : decode cL_breaks 239 = .ok (.aload_n 0, 1) := by decide +kernel
theorem dL_breaks_240 : decode cL_breaks 240 = .ok (.iload 8, 2) := by decide +kernel
theorem dL_breaks_242 : decode cL_breaks 242 = .ok (.invokestatic 102, 3) := by decide +kernel
theorem dL_breaks_245 : decode cL_breaks 245 = .ok (.iload 6, 2) := by decide +kernel
theorem dL_breaks_247 : decode cL_breaks 247 = .ok (.isub, 1) := by decide +kernel
theorem dL_breaks_248 : decode cL_breaks 248 = .ok (.istore 9, 2) := by decide +kernel
theorem dL_breaks_250 : decode cL_breaks 250 = .ok (.aload_n 1, 1) := by decide +kernel
theorem dL_breaks_251 : decode cL_breaks 251 = .ok (.bipush 7, 2) := by decide +kernel
theorem dL_breaks_253 : decode cL_breaks 253 = .ok (.aload_n 3, 1) := by decide +kernel
theorem dL_breaks_254 : decode cL_breaks 254 = .ok (.iload 5, 2) := by decide +kernel
theorem dL_breaks_256 : decode cL_breaks 256 = .ok (.iaload, 1) := by decide +kernel
theorem dL_breaks_257 : decode cL_breaks 257 = .ok (.bipush 32, 2) := by decide +kernel
theorem dL_breaks_259 : decode cL_breaks 259 = .ok (.irem, 1) := by decide +kernel
theorem dL_breaks_260 : decode cL_breaks 260 = .ok (.imul, 1) := by decide +kernel
theorem dL_breaks_261 : decode cL_breaks 261 = .ok (.iaload, 1) := by decide +kernel
theorem dL_breaks_262 : decode cL_breaks 262 = .ok (.aload_n 1, 1) := by decide +kernel
theorem dL_breaks_263 : decode cL_breaks 263 = .ok (.bipush 7, 2) := by decide +kernel
theorem dL_breaks_265 : decode cL_breaks 265 = .ok (.aload_n 3, 1) := by decide +kernel
theorem dL_breaks_266 : decode cL_breaks 266 = .ok (.iload 8, 2) := by decide +kernel
theorem dL_breaks_268 : decode cL_breaks 268 = .ok (.iaload, 1) := by decide +kernel
theorem dL_breaks_269 : decode cL_breaks 269 = .ok (.bipush 32, 2) := by decide +kernel
theorem dL_breaks_271 : decode cL_breaks 271 = .ok (.irem, 1) := by decide +kernel
theorem dL_breaks_272 : decode cL_breaks 272 = .ok (.imul, 1) := by decide +kernel
theorem dL_breaks_273 : decode cL_breaks 273 = .ok (.iaload, 1) := by decide +kernel
theorem dL_breaks_274 : decode cL_breaks 274 = .ok (.if_icmp .ne 7, 3) := by decide +kernel
theorem dL_breaks_277 : decode cL_breaks 277 = .ok (.iconst 1, 1) := by decide +kernel
theorem dL_breaks_278 : decode cL_breaks 278 = .ok (.goto 4, 3) := by decide +kernel
theorem dL_breaks_281 : decode cL_breaks 281 = .ok (.iconst 0, 1) := by decide +kernel
theorem dL_breaks_282 : decode cL_breaks 282 = .ok (.istore 10, 2) := by decide +kernel
theorem dL_breaks_284 : decode cL_breaks 284 = .ok (.aload_n 1, 1) := by decide +kernel
theorem dL_breaks_285 : decode cL_breaks 285 = .ok (.bipush 7, 2) := by decide +kernel
theorem dL_breaks_287 : decode cL_breaks 287 = .ok (.aload_n 3, 1) := by decide +kernel
theorem dL_breaks_288 : decode cL_breaks 288 = .ok (.iload 5, 2) := by decide +kernel
theorem dL_breaks_290 : decode cL_breaks 290 = .ok (.iaload, 1) := by decide +kernel
theorem dL_breaks_291 : decode cL_breaks 291 = .ok (.bipush 32, 2) := by decide +kernel
theorem dL_breaks_293 : decode cL_breaks 293 = .ok (.irem, 1) := by decide +kernel
theorem dL_breaks_294 : decode cL_breaks 294 = .ok (.imul, 1) := by decide +kernel
theorem dL_breaks_295 : decode cL_breaks 295 = .ok (.iconst 1, 1) := by decide +kernel
theorem dL_breaks_296 : decode cL_breaks 296 = .ok (.iadd, 1) := by decide +kernel
theorem dL_breaks_297 : decode cL_breaks 297 = .ok (.iaload, 1) := by decide +kernel
theorem dL_breaks_298 : decode cL_breaks 298 = .ok (.aload_n 1, 1) := by decide +kernel
theorem dL_breaks_299 : decode cL_breaks 299 = .ok (.bipush 7, 2) := by decide +kernel
theorem dL_breaks_301 : decode cL_breaks 301 = .ok (.aload_n 3, 1) := by decide +kernel
theorem dL_breaks_302 : decode cL_breaks 302 = .ok (.iload 8, 2) := by decide +kernel
theorem dL_breaks_304 : decode cL_breaks 304 = .ok (.iaload, 1) := by decide +kernel
theorem dL_breaks_305 : decode cL_breaks 305 = .ok (.bipush 32, 2) := by decide +kernel
theorem dL_breaks_307 : decode cL_breaks 307 = .ok (.irem, 1) := by decide +kernel
theorem dL_breaks_308 : decode cL_breaks 308 = .ok (.imul, 1) := by decide +kernel
theorem dL_breaks_309 : decode cL_breaks 309 = .ok (.iconst 1, 1) := by decide +kernel
theorem dL_breaks_310 : decode cL_breaks 310 = .ok (.iadd, 1) := by decide +kernel
theorem dL_breaks_311 : decode cL_breaks 311 = .ok (.iaload, 1) := by decide +kernel
theorem dL_breaks_312 : decode cL_breaks 312 = .ok (.if_icmp .ne 7, 3) := by decide +kernel
theorem dL_breaks_315 : decode cL_breaks 315 = .ok (.iconst 1, 1) := by decide +kernel
theorem dL_breaks_316 : decode cL_breaks 316 = .ok (.goto 4, 3) := by decide +kernel
theorem dL_breaks_319 : decode cL_breaks 319 = .ok (.iconst 0, 1) := by decide +kernel
theorem dL_breaks_320 : decode cL_breaks 320 = .ok (.istore 11, 2) := by decide +kernel
theorem dL_breaks_322 : decode cL_breaks 322 = .ok (.iload 10, 2) := by decide +kernel
theorem dL_breaks_324 : decode cL_breaks 324 = .ok (.ifCond .eq 8, 3) := by decide +kernel
theorem dL_breaks_327 : decode cL_breaks 327 = .ok (.iload 9, 2) := by decide +kernel
theorem dL_breaks_329 : decode cL_breaks 329 = .ok (.ifCond .eq 19, 3) := by decide +kernel
theorem dL_breaks_332 : decode cL_breaks 332 = .ok (.iload 10, 2) := by decide +kernel
theorem dL_breaks_334 : decode cL_breaks 334 = .ok (.ifCond .ne 16, 3) := by decide +kernel
theorem dL_breaks_337 : decode cL_breaks 337 = .ok (.iload 11, 2) := by decide +kernel
theorem dL_breaks_339 : decode cL_breaks 339 = .ok (.ifCond .eq 11, 3) := by decide +kernel
theorem dL_breaks_342 : decode cL_breaks 342 = .ok (.iload 9, 2) := by decide +kernel
theorem dL_breaks_344 : decode cL_breaks 344 = .ok (.iconst 2, 1) := by decide +kernel
theorem dL_breaks_345 : decode cL_breaks 345 = .ok (.if_icmp .ge 5, 3) := by decide +kernel
theorem dL_breaks_348 : decode cL_breaks 348 = .ok (.iconst 0, 1) := by decide +kernel
theorem dL_breaks_349 : decode cL_breaks 349 = .ok (.ireturn, 1) := by decide +kernel
theorem dL_breaks_350 : decode cL_breaks 350 = .ok (.iinc 8 1, 3) := by decide +kernel
theorem dL_breaks_353 : decode cL_breaks 353 = .ok (.goto (-162), 3) := by decide +kernel
theorem dL_breaks_356 : decode cL_breaks 356 = .ok (.iinc 5 1, 3) := by decide +kernel
theorem dL_breaks_359 : decode cL_breaks 359 = .ok (.goto (-253), 3) := by decide +kernel
theorem dL_breaks_362 : decode cL_breaks 362 = .ok (.aload_n 0, 1) := by decide +kernel
theorem dL_breaks_363 : decode cL_breaks 363 = .ok (.invokevirtual 108, 3) := by decide +kernel
theorem dL_breaks_366 : decode cL_breaks 366 = .ok (.aload 4, 2) := by decide +kernel
theorem dL_breaks_368 : decode cL_breaks 368 = .ok (.iconst 0, 1) := by decide +kernel
theorem dL_breaks_369 : decode cL_breaks 369 = .ok (.iaload, 1) := by decide +kernel
theorem dL_breaks_370 : decode cL_breaks 370 = .ok (.if_icmp .ne 75, 3) := by decide +kernel
theorem dL_breaks_373 : decode cL_breaks 373 = .ok (.aload_n 0, 1) := by decide +kernel
theorem dL_breaks_374 : decode cL_breaks 374 = .ok (.invokevirtual 112, 3) := by decide +kernel
theorem dL_breaks_377 : decode cL_breaks 377 = .ok (.aload 4, 2) := by decide +kernel
theorem dL_breaks_379 : decode cL_breaks 379 = .ok (.iconst 1, 1) := by decide +kernel
theorem dL_breaks_380 : decode cL_breaks 380 = .ok (.iaload, 1) := by decide +kernel
theorem dL_breaks_381 : decode cL_breaks 381 = .ok (.if_icmp .ne 64, 3) := by decide +kernel
theorem dL_breaks_384 : decode cL_breaks 384 = .ok (.aload_n 0, 1) := by decide +kernel
theorem dL_breaks_385 : decode cL_breaks 385 = .ok (.invokevirtual 115, 3) := by decide +kernel
theorem dL_breaks_388 : decode cL_breaks 388 = .ok (.aload 4, 2) := by decide +kernel
theorem dL_breaks_390 : decode cL_breaks 390 = .ok (.iconst 2, 1) := by decide +kernel
theorem dL_breaks_391 : decode cL_breaks 391 = .ok (.iaload, 1) := by decide +kernel
theorem dL_breaks_392 : decode cL_breaks 392 = .ok (.if_icmp .ne 53, 3) := by decide +kernel
theorem dL_breaks_395 : decode cL_breaks 395 = .ok (.aload_n 0, 1) := by decide +kernel
theorem dL_breaks_396 : decode cL_breaks 396 = .ok (.aload 4, 2) := by decide +kernel
theorem dL_breaks_398 : decode cL_breaks 398 = .ok (.iconst 0, 1) := by decide +kernel
theorem dL_breaks_399 : decode cL_breaks 399 = .ok (.iaload, 1) := by decide +kernel
theorem dL_breaks_400 : decode cL_breaks 400 = .ok (.invokestatic 104, 3) := by decide +kernel
theorem dL_breaks_403 : decode cL_breaks 403 = .ok (.ldc 28, 2) := by decide +kernel
theorem dL_breaks_405 : decode cL_breaks 405 = .ok (.if_icmp .ne 40, 3) := by decide +kernel
theorem dL_breaks_408 : decode cL_breaks 408 = .ok (.aload_n 0, 1) := by decide +kernel
theorem dL_breaks_409 : decode cL_breaks 409 = .ok (.iconst (-1), 1) := by decide +kernel
theorem dL_breaks_410 : decode cL_breaks 410 = .ok (.invokestatic 106, 3) := by decide +kernel
theorem dL_breaks_413 : decode cL_breaks 413 = .ok (.ldc 28, 2) := by decide +kernel
theorem dL_breaks_415 : decode cL_breaks 415 = .ok (.if_icmp .ne 30, 3) := by decide +kernel
theorem dL_breaks_418 : decode cL_breaks 418 = .ok (.aload_n 0, 1) := by decide +kernel
theorem dL_breaks_419 : decode cL_breaks 419 = .ok (.aload 4, 2) := by decide +kernel
theorem dL_breaks_421 : decode cL_breaks 421 = .ok (.iconst 2, 1) := by decide +kernel
theorem dL_breaks_422 : decode cL_breaks 422 = .ok (.iaload, 1) := by decide +kernel
theorem dL_breaks_423 : decode cL_breaks 423 = .ok (.invokestatic 93, 3) := by decide +kernel
theorem dL_breaks_426 : decode cL_breaks 426 = .ok (.ldc 28, 2) := by decide +kernel
theorem dL_breaks_428 : decode cL_breaks 428 = .ok (.if_icmp .ne 17, 3) := by decide +kernel
theorem dL_breaks_431 : decode cL_breaks 431 = .ok (.aload_n 0, 1) := by decide +kernel
theorem dL_breaks_432 : decode cL_breaks 432 = .ok (.iconst (-1), 1) := by decide +kernel
theorem dL_breaks_433 : decode cL_breaks 433 = .ok (.invokestatic 102, 3) := by decide +kernel
theorem dL_breaks_436 : decode cL_breaks 436 = .ok (.ldc 28, 2) := by decide +kernel
theorem dL_breaks_438 : decode cL_breaks 438 = .ok (.if_icmp .ne 7, 3) := by decide +kernel
theorem dL_breaks_441 : decode cL_breaks 441 = .ok (.iconst 1, 1) := by decide +kernel
theorem dL_breaks_442 : decode cL_breaks 442 = .ok (.goto 4, 3) := by decide +kernel
theorem dL_breaks_445 : decode cL_breaks 445 = .ok (.iconst 0, 1) := by decide +kernel
theorem dL_breaks_446 : decode cL_breaks 446 = .ok (.ireturn, 1) := by decide +kernel
set_option maxRecDepth 20000 in
theorem ggL_orders_L_breakOf : GoodIn wsL_orders wsL_breakOf := goodIn_ca (goodIn_r _ [6, 7, 2, 8, 9, 10, 11, 12, 13, 14, 15, 16, 17, 18, 19, 20, 21, 22, 23, 138, 139, 140, 141, 142, 143, 144, 145, 146, 147, 148, 149, 150, 151, 152, 153, 154, 155] (by decide +kernel) (by decide +kernel)) (goodIn_sub (fun _ h => List.mem_cons_of_mem _ (List.mem_append_left _ (List.mem_append_right _ h))) (by decide +kernel))
set_option maxRecDepth 20000 in
theorem gL_orders_L_breakOf : GoodIn wsL_orders (va_wsS RL 102 yL_breakOf wsL_breakOf) := goodIn_app (goodIn_of _ (by decide +kernel)) ggL_orders_L_breakOf
set_option maxRecDepth 20000 in
theorem ggL_orders_L_rating : GoodIn wsL_orders wsL_rating := goodIn_ca (goodIn_ca (goodIn_r _ [26, 7, 27, 2, 1, 28, 29, 30, 11, 31, 32, 33, 34, 35, 36, 37, 19, 20, 21, 22, 23, 38, 39, 40, 41, 42, 43, 44, 45, 46, 47, 48, 49, 50, 51, 138, 139, 140, 141, 142, 143, 144, 145, 146, 147, 148, 149, 150, 151, 152, 153, 154, 155] (by decide +kernel) (by decide +kernel)) (goodIn_sub (fun _ h => List.mem_cons_of_mem _ (List.mem_append_left _ (List.mem_append_right _ h))) (by decide +kernel))) (goodIn_sub (fun _ h => List.mem_cons_of_mem _ (List.mem_append_right _ h)) (by decide +kernel))
set_option maxRecDepth 20000 in
theorem gL_orders_L_rating : GoodIn wsL_orders (va_wsS RL 118 yL_rating wsL_rating) := goodIn_app (goodIn_of _ (by decide +kernel)) ggL_orders_L_rating
set_option maxRecDepth 20000 in
theorem ggL_orders_L_stateOf : GoodIn wsL_orders wsL_stateOf := goodIn_ca (goodIn_r _ [54, 7, 2, 55, 56, 57, 11, 58, 59, 14, 15, 16, 17, 18, 19, 20, 21, 22, 23, 138, 139, 140, 141, 142, 143, 144, 145, 146, 147, 148, 149, 150, 151, 152, 153, 154, 155] (by decide +kernel) (by decide +kernel)) (goodIn_sub (fun _ h => List.mem_cons_of_mem _ (List.mem_append_left _ (List.mem_append_right _ h))) (by decide +kernel))
set_option maxRecDepth 20000 in
theorem gL_orders_L_stateOf : GoodIn wsL_orders (va_wsS RL 93 yL_stateOf wsL_stateOf) := goodIn_app (goodIn_of _ (by decide +kernel)) ggL_orders_L_stateOf
set_option maxRecDepth 20000 in
theorem ggL_orders_L_delivered : GoodIn wsL_orders wsL_delivered := goodIn_ca (goodIn_r _ [62, 7, 2, 63, 64, 65, 11, 66, 67, 68, 69, 70, 71, 19, 20, 21, 22, 23, 72, 73, 74, 75, 18, 76, 59, 13, 77, 78, 79, 80, 32, 81, 49, 50, 51, 138, 139, 140, 141, 142, 143, 144, 145, 146, 147, 148, 149, 150, 151, 152, 153, 154, 155] (by decide +kernel) (by decide +kernel)) (goodIn_sub (fun _ h => List.mem_cons_of_mem _ (List.mem_append_left _ (List.mem_append_right _ h))) (by decide +kernel))
set_option maxRecDepth 20000 in
theorem gL_orders_L_delivered : GoodIn wsL_orders (va_wsS RL 121 yL_delivered wsL_delivered) := goodIn_app (goodIn_of _ (by decide +kernel)) ggL_orders_L_delivered
set_option maxRecDepth 20000 in
theorem ggL_orders_L_owed : GoodIn wsL_orders wsL_owed := goodIn_ca (goodIn_r _ [84, 7, 2, 85, 86, 87, 11, 88, 67, 68, 69, 70, 71, 19, 20, 21, 22, 23, 89, 90, 91, 92, 93, 94, 95, 96, 97, 98, 72, 73, 74, 75, 18, 76, 59, 13, 77, 78, 79, 80, 32, 81, 49, 50, 51, 138, 139, 140, 141, 142, 143, 144, 145, 146, 147, 148, 149, 150, 151, 152, 153, 154, 155] (by decide +kernel) (by decide +kernel)) (goodIn_sub (fun _ h => List.mem_cons_of_mem _ (List.mem_append_left _ (List.mem_append_right _ h))) (by decide +kernel))
set_option maxRecDepth 20000 in
theorem gL_orders_L_owed : GoodIn wsL_orders (va_wsS RL 123 yL_owed wsL_owed) := goodIn_app (goodIn_of _ (by decide +kernel)) ggL_orders_L_owed
set_option maxRecDepth 20000 in
theorem ggL_orders_L_rest : GoodIn wsL_orders wsL_rest := goodIn_ca (goodIn_r _ [101, 7, 2, 102, 103, 104, 11, 105, 67, 68, 69, 70, 71, 19, 20, 21, 22, 23, 106, 107, 108, 109, 18, 76, 110, 59, 13, 95, 96, 97, 98, 89, 90, 91, 92, 93, 94, 72, 73, 74, 75, 77, 78, 79, 80, 32, 81, 49, 50, 51, 138, 139, 140, 141, 142, 143, 144, 145, 146, 147, 148, 149, 150, 151, 152, 153, 154, 155] (by decide +kernel) (by decide +kernel)) (goodIn_sub (fun _ h => List.mem_cons_of_mem _ (List.mem_append_left _ (List.mem_append_right _ h))) (by decide +kernel))
set_option maxRecDepth 20000 in
theorem gL_orders_L_rest : GoodIn wsL_orders (va_wsS RL 125 yL_rest wsL_rest) := goodIn_app (goodIn_of _ (by decide +kernel)) ggL_orders_L_rest
set_option maxRecDepth 20000 in
theorem ggL_orders_L_bill : GoodIn wsL_orders wsL_bill := goodIn_ca (goodIn_r _ [113, 7, 2, 114, 115, 116, 11, 117, 67, 68, 69, 70, 71, 19, 20, 21, 22, 23, 118, 119, 120, 121, 18, 76, 110, 59, 122, 138, 139, 140, 141, 142, 143, 144, 145, 146, 147, 148, 149, 150, 151, 152, 153, 154, 155] (by decide +kernel) (by decide +kernel)) (goodIn_sub (fun _ h => List.mem_cons_of_mem _ (List.mem_append_left _ (List.mem_append_right _ h))) (by decide +kernel))
set_option maxRecDepth 20000 in
theorem gL_orders_L_bill : GoodIn wsL_orders (va_wsS RL 127 yL_bill wsL_bill) := goodIn_app (goodIn_of _ (by decide +kernel)) ggL_orders_L_bill
set_option maxRecDepth 20000 in
theorem ggL_orders_L_billTo : GoodIn wsL_orders wsL_billTo := goodIn_ca (goodIn_r _ [125, 27, 1, 126, 127, 128, 11, 129, 71, 130, 131, 132, 133, 41, 42, 43, 44, 45, 46, 47, 48, 118, 119, 120, 121, 18, 76, 110, 59, 122, 138, 139, 140, 141, 142, 143, 144, 145, 146, 147, 148, 149, 150, 151, 152, 153, 154, 155] (by decide +kernel) (by decide +kernel)) (goodIn_sub (fun _ h => List.mem_cons_of_mem _ (List.mem_append_right _ h)) (by decide +kernel))
set_option maxRecDepth 20000 in
theorem gL_orders_L_billTo : GoodIn wsL_orders (va_wsS RL 129 yL_billTo wsL_billTo) := goodIn_app (goodIn_of _ (by decide +kernel)) ggL_orders_L_billTo
set_option maxRecDepth 20000 in
theorem ggL_orders_X0_mostOwed : GoodIn wsL_orders wsX0_mostOwed := goodIn_r _ [137, 71, 106, 107, 108, 11, 109, 18, 76, 110, 59, 13, 95, 96, 97, 98, 89, 90, 91, 92, 93, 94, 72, 73, 74, 75, 77, 78, 79, 80, 32, 81, 49, 50, 51, 138, 139, 140, 141, 142, 143, 144, 145, 146, 147, 148, 149, 150, 151, 152, 153, 154, 155] (by decide +kernel) (by decide +kernel)
set_option maxRecDepth 20000 in
theorem gL_orders_X0_mostOwed : GoodIn wsL_orders (wsV RL 131 RX0 yX0_mostOwed wsX0_mostOwed) := goodIn_app (goodIn_of _ (by decide +kernel)) ggL_orders_X0_mostOwed
theorem dL_orders_0 : decode cL_orders 0 = .ok (.iconst (-1), 1) := by decide +kernel
theorem dL_orders_1 : decode cL_orders 1 = .ok (.istore 4, 2) := by decide +kernel
theorem dL_orders_3 : decode cL_orders 3 = .ok (.iconst 0, 1) := by decide +kernel
theorem dL_orders_4 : decode cL_orders 4 = .ok (.istore 5, 2) := by decide +kernel
theorem dL_orders_6 : decode cL_orders 6 = .ok (.iload 5, 2) := by decide +kernel
theorem dL_orders_8 : decode cL_orders 8 = .ok (.aload_n 3, 1) := by decide +kernel
theorem dL_orders_9 : decode cL_orders 9 = .ok (.iconst 1, 1) := by decide +kernel
theorem dL_orders_10 : decode cL_orders 10 = .ok (.iaload, 1) := by decide +kernel
theorem dL_orders_11 : decode cL_orders 11 = .ok (.if_icmp .ge 331, 3) := by decide +kernel
theorem dL_orders_14 : decode cL_orders 14 = .ok (.iconst 0, 1) := by decide +kernel
theorem dL_orders_15 : decode cL_orders 15 = .ok (.istore 6, 2) := by decide +kernel
theorem dL_orders_17 : decode cL_orders 17 = .ok (.iconst 0, 1) := by decide +kernel
theorem dL_orders_18 : decode cL_orders 18 = .ok (.istore 7, 2) := by decide +kernel
theorem dL_orders_20 : decode cL_orders 20 = .ok (.iconst 0, 1) := by decide +kernel
theorem dL_orders_21 : decode cL_orders 21 = .ok (.istore 8, 2) := by decide +kernel
theorem dL_orders_23 : decode cL_orders 23 = .ok (.iconst 0, 1) := by decide +kernel
theorem dL_orders_24 : decode cL_orders 24 = .ok (.istore 9, 2) := by decide +kernel
theorem dL_orders_26 : decode cL_orders 26 = .ok (.iload 9, 2) := by decide +kernel
theorem dL_orders_28 : decode cL_orders 28 = .ok (.aload_n 3, 1) := by decide +kernel
theorem dL_orders_29 : decode cL_orders 29 = .ok (.iconst 2, 1) := by decide +kernel
theorem dL_orders_30 : decode cL_orders 30 = .ok (.iaload, 1) := by decide +kernel
theorem dL_orders_31 : decode cL_orders 31 = .ok (.if_icmp .ge 155, 3) := by decide +kernel
theorem dL_orders_34 : decode cL_orders 34 = .ok (.aload_n 2, 1) := by decide +kernel
theorem dL_orders_35 : decode cL_orders 35 = .ok (.iload 9, 2) := by decide +kernel
theorem dL_orders_37 : decode cL_orders 37 = .ok (.iaload, 1) := by decide +kernel
theorem dL_orders_38 : decode cL_orders 38 = .ok (.bipush 32, 2) := by decide +kernel
theorem dL_orders_40 : decode cL_orders 40 = .ok (.irem, 1) := by decide +kernel
theorem dL_orders_41 : decode cL_orders 41 = .ok (.iload 5, 2) := by decide +kernel
theorem dL_orders_43 : decode cL_orders 43 = .ok (.if_icmp .ne 137, 3) := by decide +kernel
theorem dL_orders_46 : decode cL_orders 46 = .ok (.aload_n 0, 1) := by decide +kernel
theorem dL_orders_47 : decode cL_orders 47 = .ok (.aload_n 0, 1) := by decide +kernel
theorem dL_orders_48 : decode cL_orders 48 = .ok (.iload 9, 2) := by decide +kernel
theorem dL_orders_50 : decode cL_orders 50 = .ok (.invokestatic 102, 3) := by decide +kernel
theorem dL_orders_53 : decode cL_orders 53 = .ok (.aload_n 1, 1) := by decide +kernel
theorem dL_orders_54 : decode cL_orders 54 = .ok (.bipush 7, 2) := by decide +kernel
theorem dL_orders_56 : decode cL_orders 56 = .ok (.iload 5, 2) := by decide +kernel
theorem dL_orders_58 : decode cL_orders 58 = .ok (.imul, 1) := by decide +kernel
theorem dL_orders_59 : decode cL_orders 59 = .ok (.iconst 2, 1) := by decide +kernel
theorem dL_orders_60 : decode cL_orders 60 = .ok (.iadd, 1) := by decide +kernel
theorem dL_orders_61 : decode cL_orders 61 = .ok (.iaload, 1) := by decide +kernel
theorem dL_orders_62 : decode cL_orders 62 = .ok (.invokestatic 118, 3) := by decide +kernel
theorem dL_orders_65 : decode cL_orders 65 = .ok (.istore 10, 2) := by decide +kernel
theorem dL_orders_67 : decode cL_orders 67 = .ok (.iload 6, 2) := by decide +kernel
theorem dL_orders_69 : decode cL_orders 69 = .ok (.aload_n 0, 1) := by decide +kernel
theorem dL_orders_70 : decode cL_orders 70 = .ok (.iload 9, 2) := by decide +kernel
theorem dL_orders_72 : decode cL_orders 72 = .ok (.invokestatic 93, 3) := by decide +kernel
theorem dL_orders_75 : decode cL_orders 75 = .ok (.iconst 1, 1) := by decide +kernel
theorem dL_orders_76 : decode cL_orders 76 = .ok (.if_icmp .ne 8, 3) := by decide +kernel
theorem dL_orders_79 : decode cL_orders 79 = .ok (.iload 10, 2) := by decide +kernel
theorem dL_orders_81 : decode cL_orders 81 = .ok (.goto 4, 3) := by decide +kernel
theorem dL_orders_84 : decode cL_orders 84 = .ok (.iconst 0, 1) := by decide +kernel
theorem dL_orders_85 : decode cL_orders 85 = .ok (.iadd, 1) := by decide +kernel
theorem dL_orders_86 : decode cL_orders 86 = .ok (.istore 6, 2) := by decide +kernel
theorem dL_orders_88 : decode cL_orders 88 = .ok (.iload 7, 2) := by decide +kernel
theorem dL_orders_90 : decode cL_orders 90 = .ok (.aload_n 0, 1) := by decide +kernel
theorem dL_orders_91 : decode cL_orders 91 = .ok (.iload 9, 2) := by decide +kernel
theorem dL_orders_93 : decode cL_orders 93 = .ok (.invokestatic 93, 3) := by decide +kernel
theorem dL_orders_96 : decode cL_orders 96 = .ok (.ifCond .ne 17, 3) := by decide +kernel
theorem dL_orders_99 : decode cL_orders 99 = .ok (.aload_n 2, 1) := by decide +kernel
theorem dL_orders_100 : decode cL_orders 100 = .ok (.iload 9, 2) := by decide +kernel
theorem dL_orders_102 : decode cL_orders 102 = .ok (.iaload, 1) := by decide +kernel
theorem dL_orders_103 : decode cL_orders 103 = .ok (.bipush 31, 2) := by decide +kernel
theorem dL_orders_105 : decode cL_orders 105 = .ok (.if_icmp .le 8, 3) := by decide +kernel
theorem dL_orders_108 : decode cL_orders 108 = .ok (.iload 10, 2) := by decide +kernel
theorem dL_orders_110 : decode cL_orders 110 = .ok (.goto 4, 3) := by decide +kernel
theorem dL_orders_113 : decode cL_orders 113 = .ok (.iconst 0, 1) := by decide +kernel
theorem dL_orders_114 : decode cL_orders 114 = .ok (.iadd, 1) := by decide +kernel
theorem dL_orders_115 : decode cL_orders 115 = .ok (.istore 7, 2) := by decide +kernel
theorem dL_orders_117 : decode cL_orders 117 = .ok (.iload 8, 2) := by decide +kernel
theorem dL_orders_119 : decode cL_orders 119 = .ok (.aload_n 0, 1) := by decide +kernel
theorem dL_orders_120 : decode cL_orders 120 = .ok (.iload 9, 2) := by decide +kernel
theorem dL_orders_122 : decode cL_orders 122 = .ok (.invokestatic 93, 3) := by decide +kernel
theorem dL_orders_125 : decode cL_orders 125 = .ok (.iconst 1, 1) := by decide +kernel
theorem dL_orders_126 : decode cL_orders 126 = .ok (.if_icmp .ne 16, 3) := by decide +kernel
theorem dL_orders_129 : decode cL_orders 129 = .ok (.aload_n 2, 1) := by decide +kernel
theorem dL_orders_130 : decode cL_orders 130 = .ok (.iload 9, 2) := by decide +kernel
theorem dL_orders_132 : decode cL_orders 132 = .ok (.iaload, 1) := by decide +kernel
theorem dL_orders_133 : decode cL_orders 133 = .ok (.bipush 32, 2) := by decide +kernel
theorem dL_orders_135 : decode cL_orders 135 = .ok (.if_icmp .ge 7, 3) := by decide +kernel
theorem dL_orders_138 : decode cL_orders 138 = .ok (.iconst 1, 1) := by decide +kernel
theorem dL_orders_139 : decode cL_orders 139 = .ok (.goto 4, 3) := by decide +kernel
theorem dL_orders_142 : decode cL_orders 142 = .ok (.iconst 0, 1) := by decide +kernel
theorem dL_orders_143 : decode cL_orders 143 = .ok (.iadd, 1) := by decide +kernel
theorem dL_orders_144 : decode cL_orders 144 = .ok (.istore 8, 2) := by decide +kernel
theorem dL_orders_146 : decode cL_orders 146 = .ok (.aload_n 0, 1) := by decide +kernel
theorem dL_orders_147 : decode cL_orders 147 = .ok (.iload 9, 2) := by decide +kernel
theorem dL_orders_149 : decode cL_orders 149 = .ok (.invokestatic 93, 3) := by decide +kernel
theorem dL_orders_152 : decode cL_orders 152 = .ok (.ifCond .ne 28, 3) := by decide +kernel
theorem dL_orders_155 : decode cL_orders 155 = .ok (.aload_n 2, 1) := by decide +kernel
theorem dL_orders_156 : decode cL_orders 156 = .ok (.iload 9, 2) := by decide +kernel
theorem dL_orders_158 : decode cL_orders 158 = .ok (.iaload, 1) := by decide +kernel
theorem dL_orders_159 : decode cL_orders 159 = .ok (.bipush 32, 2) := by decide +kernel
theorem dL_orders_161 : decode cL_orders 161 = .ok (.if_icmp .ge 19, 3) := by decide +kernel
theorem dL_orders_164 : decode cL_orders 164 = .ok (.aload_n 1, 1) := by decide +kernel
theorem dL_orders_165 : decode cL_orders 165 = .ok (.bipush 7, 2) := by decide +kernel
theorem dL_orders_167 : decode cL_orders 167 = .ok (.iload 5, 2) := by decide +kernel
theorem dL_orders_169 : decode cL_orders 169 = .ok (.imul, 1) := by decide +kernel
theorem dL_orders_170 : decode cL_orders 170 = .ok (.bipush 6, 2) := by decide +kernel
theorem dL_orders_172 : decode cL_orders 172 = .ok (.iadd, 1) := by decide +kernel
theorem dL_orders_173 : decode cL_orders 173 = .ok (.iaload, 1) := by decide +kernel
theorem dL_orders_174 : decode cL_orders 174 = .ok (.iconst 1, 1) := by decide +kernel
theorem dL_orders_175 : decode cL_orders 175 = .ok (.if_icmp .ne 5, 3) := by decide +kernel
theorem dL_orders_178 : decode cL_orders 178 = .ok (.iconst 0, 1) := by decide +kernel
theorem dL_orders_179 : decode cL_orders 179 = .ok (.ireturn, 1) := by decide +kernel
theorem dL_orders_180 : decode cL_orders 180 = .ok (.iinc 9 1, 3) := by decide +kernel
theorem dL_orders_183 : decode cL_orders 183 = .ok (.goto (-157), 3) := by decide +kernel
theorem dL_orders_186 : decode cL_orders 186 = .ok (.aload_n 1, 1) := by decide +kernel
theorem dL_orders_187 : decode cL_orders 187 = .ok (.bipush 7, 2) := by decide +kernel
theorem dL_orders_189 : decode cL_orders 189 = .ok (.iload 5, 2) := by decide +kernel
theorem dL_orders_191 : decode cL_orders 191 = .ok (.imul, 1) := by decide +kernel
theorem dL_orders_192 : decode cL_orders 192 = .ok (.bipush 6, 2) := by decide +kernel
theorem dL_orders_194 : decode cL_orders 194 = .ok (.iadd, 1) := by decide +kernel
theorem dL_orders_195 : decode cL_orders 195 = .ok (.iaload, 1) := by decide +kernel
theorem dL_orders_196 : decode cL_orders 196 = .ok (.iconst 1, 1) := by decide +kernel
theorem dL_orders_197 : decode cL_orders 197 = .ok (.if_icmp .ne 32, 3) := by decide +kernel
theorem dL_orders_200 : decode cL_orders 200 = .ok (.aload_n 1, 1) := by decide +kernel
theorem dL_orders_201 : decode cL_orders 201 = .ok (.bipush 7, 2) := by decide +kernel
theorem dL_orders_203 : decode cL_orders 203 = .ok (.iload 5, 2) := by decide +kernel
theorem dL_orders_205 : decode cL_orders 205 = .ok (.imul, 1) := by decide +kernel
theorem dL_orders_206 : decode cL_orders 206 = .ok (.iconst 5, 1) := by decide +kernel
theorem dL_orders_207 : decode cL_orders 207 = .ok (.iadd, 1) := by decide +kernel
theorem dL_orders_208 : decode cL_orders 208 = .ok (.iaload, 1) := by decide +kernel
theorem dL_orders_209 : decode cL_orders 209 = .ok (.iload 6, 2) := by decide +kernel
theorem dL_orders_211 : decode cL_orders 211 = .ok (.if_icmp .le 18, 3) := by decide +kernel
theorem dL_orders_214 : decode cL_orders 214 = .ok (.aload_n 1, 1) := by decide +kernel
theorem dL_orders_215 : decode cL_orders 215 = .ok (.bipush 7, 2) := by decide +kernel
theorem dL_orders_217 : decode cL_orders 217 = .ok (.iload 5, 2) := by decide +kernel
theorem dL_orders_219 : decode cL_orders 219 = .ok (.imul, 1) := by decide +kernel
theorem dL_orders_220 : decode cL_orders 220 = .ok (.iconst 5, 1) := by decide +kernel
theorem dL_orders_221 : decode cL_orders 221 = .ok (.iadd, 1) := by decide +kernel
theorem dL_orders_222 : decode cL_orders 222 = .ok (.iaload, 1) := by decide +kernel
theorem dL_orders_223 : decode cL_orders 223 = .ok (.iload 6, 2) := by decide +kernel
theorem dL_orders_225 : decode cL_orders 225 = .ok (.isub, 1) := by decide +kernel
theorem dL_orders_226 : decode cL_orders 226 = .ok (.goto 4, 3) := by decide +kernel
theorem dL_orders_229 : decode cL_orders 229 = .ok (.iconst 0, 1) := by decide +kernel
theorem dL_orders_230 : decode cL_orders 230 = .ok (.istore 9, 2) := by decide +kernel
theorem dL_orders_232 : decode cL_orders 232 = .ok (.iload 9, 2) := by decide +kernel
theorem dL_orders_234 : decode cL_orders 234 = .ok (.iload 7, 2) := by decide +kernel
theorem dL_orders_236 : decode cL_orders 236 = .ok (.if_icmp .le 11, 3) := by decide +kernel
theorem dL_orders_239 : decode cL_orders 239 = .ok (.iload 9, 2) := by decide +kernel
theorem dL_orders_241 : decode cL_orders 241 = .ok (.iload 7, 2) := by decide +kernel
theorem dL_orders_243 : decode cL_orders 243 = .ok (.isub, 1) := by decide +kernel
theorem dL_orders_244 : decode cL_orders 244 = .ok (.goto 4, 3) := by decide +kernel
theorem dL_orders_247 : decode cL_orders 247 = .ok (.iconst 0, 1) := by decide +kernel
theorem dL_orders_248 : decode cL_orders 248 = .ok (.istore 10, 2) := by decide +kernel
theorem dL_orders_250 : decode cL_orders 250 = .ok (.aload_n 0, 1) := by decide +kernel
theorem dL_orders_251 : decode cL_orders 251 = .ok (.iload 5, 2) := by decide +kernel
theorem dL_orders_253 : decode cL_orders 253 = .ok (.invokestatic 121, 3) := by decide +kernel
theorem dL_orders_256 : decode cL_orders 256 = .ok (.iload 6, 2) := by decide +kernel
theorem dL_orders_258 : decode cL_orders 258 = .ok (.if_icmp .ne 46, 3) := by decide +kernel
theorem dL_orders_261 : decode cL_orders 261 = .ok (.aload_n 0, 1) := by decide +kernel
theorem dL_orders_262 : decode cL_orders 262 = .ok (.iload 5, 2) := by decide +kernel
theorem dL_orders_264 : decode cL_orders 264 = .ok (.invokestatic 123, 3) := by decide +kernel
theorem dL_orders_267 : decode cL_orders 267 = .ok (.iload 9, 2) := by decide +kernel
theorem dL_orders_269 : decode cL_orders 269 = .ok (.if_icmp .ne 35, 3) := by decide +kernel
theorem dL_orders_272 : decode cL_orders 272 = .ok (.aload_n 0, 1) := by decide +kernel
theorem dL_orders_273 : decode cL_orders 273 = .ok (.iload 5, 2) := by decide +kernel
theorem dL_orders_275 : decode cL_orders 275 = .ok (.invokestatic 125, 3) := by decide +kernel
theorem dL_orders_278 : decode cL_orders 278 = .ok (.iload 10, 2) := by decide +kernel
theorem dL_orders_280 : decode cL_orders 280 = .ok (.if_icmp .ne 24, 3) := by decide +kernel
theorem dL_orders_283 : decode cL_orders 283 = .ok (.aload_n 0, 1) := by decide +kernel
theorem dL_orders_284 : decode cL_orders 284 = .ok (.iload 5, 2) := by decide +kernel
theorem dL_orders_286 : decode cL_orders 286 = .ok (.invokestatic 127, 3) := by decide +kernel
theorem dL_orders_289 : decode cL_orders 289 = .ok (.iload 8, 2) := by decide +kernel
theorem dL_orders_291 : decode cL_orders 291 = .ok (.aload_n 1, 1) := by decide +kernel
theorem dL_orders_292 : decode cL_orders 292 = .ok (.bipush 7, 2) := by decide +kernel
theorem dL_orders_294 : decode cL_orders 294 = .ok (.iload 5, 2) := by decide +kernel
theorem dL_orders_296 : decode cL_orders 296 = .ok (.imul, 1) := by decide +kernel
theorem dL_orders_297 : decode cL_orders 297 = .ok (.iconst 4, 1) := by decide +kernel
theorem dL_orders_298 : decode cL_orders 298 = .ok (.iadd, 1) := by decide +kernel
theorem dL_orders_299 : decode cL_orders 299 = .ok (.iaload, 1) := by decide +kernel
theorem dL_orders_300 : decode cL_orders 300 = .ok (.imul, 1) := by decide +kernel
theorem dL_orders_301 : decode cL_orders 301 = .ok (.if_icmp .eq 5, 3) := by decide +kernel
theorem dL_orders_304 : decode cL_orders 304 = .ok (.iconst 0, 1) := by decide +kernel
theorem dL_orders_305 : decode cL_orders 305 = .ok (.ireturn, 1) := by decide +kernel
theorem dL_orders_306 : decode cL_orders 306 = .ok (.iload 10, 2) := by decide +kernel
theorem dL_orders_308 : decode cL_orders 308 = .ok (.ifCond .le 24, 3) := by decide +kernel
theorem dL_orders_311 : decode cL_orders 311 = .ok (.iload 4, 2) := by decide +kernel
theorem dL_orders_313 : decode cL_orders 313 = .ok (.ifCond .lt 14, 3) := by decide +kernel
theorem dL_orders_316 : decode cL_orders 316 = .ok (.iload 10, 2) := by decide +kernel
theorem dL_orders_318 : decode cL_orders 318 = .ok (.aload_n 0, 1) := by decide +kernel
theorem dL_orders_319 : decode cL_orders 319 = .ok (.iload 4, 2) := by decide +kernel
theorem dL_orders_321 : decode cL_orders 321 = .ok (.invokestatic 125, 3) := by decide +kernel
theorem dL_orders_324 : decode cL_orders 324 = .ok (.if_icmp .le 8, 3) := by decide +kernel
theorem dL_orders_327 : decode cL_orders 327 = .ok (.iload 5, 2) := by decide +kernel
theorem dL_orders_329 : decode cL_orders 329 = .ok (.goto 5, 3) := by decide +kernel
theorem dL_orders_332 : decode cL_orders 332 = .ok (.iload 4, 2) := by decide +kernel
theorem dL_orders_334 : decode cL_orders 334 = .ok (.istore 4, 2) := by decide +kernel
theorem dL_orders_336 : decode cL_orders 336 = .ok (.iinc 5 1, 3) := by decide +kernel
theorem dL_orders_339 : decode cL_orders 339 = .ok (.goto (-333), 3) := by decide +kernel
theorem dL_orders_342 : decode cL_orders 342 = .ok (.iconst 0, 1) := by decide +kernel
theorem dL_orders_343 : decode cL_orders 343 = .ok (.istore 5, 2) := by decide +kernel
theorem dL_orders_345 : decode cL_orders 345 = .ok (.iload 5, 2) := by decide +kernel
theorem dL_orders_347 : decode cL_orders 347 = .ok (.bipush 10, 2) := by decide +kernel
theorem dL_orders_349 : decode cL_orders 349 = .ok (.if_icmp .ge 69, 3) := by decide +kernel
theorem dL_orders_352 : decode cL_orders 352 = .ok (.iconst 0, 1) := by decide +kernel
theorem dL_orders_353 : decode cL_orders 353 = .ok (.istore 6, 2) := by decide +kernel
theorem dL_orders_355 : decode cL_orders 355 = .ok (.iconst 0, 1) := by decide +kernel
theorem dL_orders_356 : decode cL_orders 356 = .ok (.istore 7, 2) := by decide +kernel
theorem dL_orders_358 : decode cL_orders 358 = .ok (.iload 7, 2) := by decide +kernel
theorem dL_orders_360 : decode cL_orders 360 = .ok (.aload_n 3, 1) := by decide +kernel
theorem dL_orders_361 : decode cL_orders 361 = .ok (.iconst 1, 1) := by decide +kernel
theorem dL_orders_362 : decode cL_orders 362 = .ok (.iaload, 1) := by decide +kernel
theorem dL_orders_363 : decode cL_orders 363 = .ok (.if_icmp .ge 36, 3) := by decide +kernel
theorem dL_orders_366 : decode cL_orders 366 = .ok (.iload 6, 2) := by decide +kernel
theorem dL_orders_368 : decode cL_orders 368 = .ok (.aload_n 1, 1) := by decide +kernel
theorem dL_orders_369 : decode cL_orders 369 = .ok (.bipush 7, 2) := by decide +kernel
theorem dL_orders_371 : decode cL_orders 371 = .ok (.iload 7, 2) := by decide +kernel
theorem dL_orders_373 : decode cL_orders 373 = .ok (.imul, 1) := by decide +kernel
theorem dL_orders_374 : decode cL_orders 374 = .ok (.iaload, 1) := by decide +kernel
theorem dL_orders_375 : decode cL_orders 375 = .ok (.iload 5, 2) := by decide +kernel
theorem dL_orders_377 : decode cL_orders 377 = .ok (.if_icmp .ne 12, 3) := by decide +kernel
theorem dL_orders_380 : decode cL_orders 380 = .ok (.aload_n 0, 1) := by decide +kernel
theorem dL_orders_381 : decode cL_orders 381 = .ok (.iload 7, 2) := by decide +kernel
theorem dL_orders_383 : decode cL_orders 383 = .ok (.invokestatic 127, 3) := by decide +kernel
theorem dL_orders_386 : decode cL_orders 386 = .ok (.goto 4, 3) := by decide +kernel
theorem dL_orders_389 : decode cL_orders 389 = .ok (.iconst 0, 1) := by decide +kernel
theorem dL_orders_390 : decode cL_orders 390 = .ok (.iadd, 1) := by decide +kernel
theorem dL_orders_391 : decode cL_orders 391 = .ok (.istore 6, 2) := by decide +kernel
theorem dL_orders_393 : decode cL_orders 393 = .ok (.iinc 7 1, 3) := by decide +kernel
theorem dL_orders_396 : decode cL_orders 396 = .ok (.goto (-38), 3) := by decide +kernel
theorem dL_orders_399 : decode cL_orders 399 = .ok (.aload_n 0, 1) := by decide +kernel
theorem dL_orders_400 : decode cL_orders 400 = .ok (.iload 5, 2) := by decide +kernel
theorem dL_orders_402 : decode cL_orders 402 = .ok (.invokestatic 129, 3) := by decide +kernel
theorem dL_orders_405 : decode cL_orders 405 = .ok (.iload 6, 2) := by decide +kernel
theorem dL_orders_407 : decode cL_orders 407 = .ok (.if_icmp .eq 5, 3) := by decide +kernel
theorem dL_orders_410 : decode cL_orders 410 = .ok (.iconst 0, 1) := by decide +kernel
theorem dL_orders_411 : decode cL_orders 411 = .ok (.ireturn, 1) := by decide +kernel
theorem dL_orders_412 : decode cL_orders 412 = .ok (.iinc 5 1, 3) := by decide +kernel
theorem dL_orders_415 : decode cL_orders 415 = .ok (.goto (-70), 3) := by decide +kernel
theorem dL_orders_418 : decode cL_orders 418 = .ok (.aload_n 0, 1) := by decide +kernel
theorem dL_orders_419 : decode cL_orders 419 = .ok (.invokevirtual 131, 3) := by decide +kernel
theorem dL_orders_422 : decode cL_orders 422 = .ok (.iload 4, 2) := by decide +kernel
theorem dL_orders_424 : decode cL_orders 424 = .ok (.if_icmp .ne 62, 3) := by decide +kernel
theorem dL_orders_427 : decode cL_orders 427 = .ok (.aload_n 0, 1) := by decide +kernel
theorem dL_orders_428 : decode cL_orders 428 = .ok (.bipush 10, 2) := by decide +kernel
theorem dL_orders_430 : decode cL_orders 430 = .ok (.invokestatic 129, 3) := by decide +kernel
theorem dL_orders_433 : decode cL_orders 433 = .ok (.ldc 18, 2) := by decide +kernel
theorem dL_orders_435 : decode cL_orders 435 = .ok (.if_icmp .ne 51, 3) := by decide +kernel
theorem dL_orders_438 : decode cL_orders 438 = .ok (.aload_n 0, 1) := by decide +kernel
theorem dL_orders_439 : decode cL_orders 439 = .ok (.aload_n 3, 1) := by decide +kernel
theorem dL_orders_440 : decode cL_orders 440 = .ok (.iconst 1, 1) := by decide +kernel
theorem dL_orders_441 : decode cL_orders 441 = .ok (.iaload, 1) := by decide +kernel
theorem dL_orders_442 : decode cL_orders 442 = .ok (.invokestatic 121, 3) := by decide +kernel
theorem dL_orders_445 : decode cL_orders 445 = .ok (.ldc 28, 2) := by decide +kernel
theorem dL_orders_447 : decode cL_orders 447 = .ok (.if_icmp .ne 39, 3) := by decide +kernel
theorem dL_orders_450 : decode cL_orders 450 = .ok (.aload_n 0, 1) := by decide +kernel
theorem dL_orders_451 : decode cL_orders 451 = .ok (.iconst (-1), 1) := by decide +kernel
theorem dL_orders_452 : decode cL_orders 452 = .ok (.invokestatic 123, 3) := by decide +kernel
theorem dL_orders_455 : decode cL_orders 455 = .ok (.ldc 28, 2) := by decide +kernel
theorem dL_orders_457 : decode cL_orders 457 = .ok (.if_icmp .ne 29, 3) := by decide +kernel
theorem dL_orders_460 : decode cL_orders 460 = .ok (.aload_n 0, 1) := by decide +kernel
theorem dL_orders_461 : decode cL_orders 461 = .ok (.aload_n 3, 1) := by decide +kernel
theorem dL_orders_462 : decode cL_orders 462 = .ok (.iconst 1, 1) := by decide +kernel
theorem dL_orders_463 : decode cL_orders 463 = .ok (.iaload, 1) := by decide +kernel
theorem dL_orders_464 : decode cL_orders 464 = .ok (.invokestatic 125, 3) := by decide +kernel
theorem dL_orders_467 : decode cL_orders 467 = .ok (.ldc 28, 2) := by decide +kernel
theorem dL_orders_469 : decode cL_orders 469 = .ok (.if_icmp .ne 17, 3) := by decide +kernel
theorem dL_orders_472 : decode cL_orders 472 = .ok (.aload_n 0, 1) := by decide +kernel
theorem dL_orders_473 : decode cL_orders 473 = .ok (.iconst (-1), 1) := by decide +kernel
theorem dL_orders_474 : decode cL_orders 474 = .ok (.invokestatic 127, 3) := by decide +kernel
theorem dL_orders_477 : decode cL_orders 477 = .ok (.ldc 28, 2) := by decide +kernel
theorem dL_orders_479 : decode cL_orders 479 = .ok (.if_icmp .ne 7, 3) := by decide +kernel
theorem dL_orders_482 : decode cL_orders 482 = .ok (.iconst 1, 1) := by decide +kernel
theorem dL_orders_483 : decode cL_orders 483 = .ok (.goto 4, 3) := by decide +kernel
theorem dL_orders_486 : decode cL_orders 486 = .ok (.iconst 0, 1) := by decide +kernel
theorem dL_orders_487 : decode cL_orders 487 = .ok (.ireturn, 1) := by decide +kernel
set_option maxRecDepth 20000 in
theorem ggL_fills_L_fill : GoodIn wsL_fills wsL_fill := goodIn_ca (goodIn_ca (goodIn_ca (goodIn_r _ [7, 8, 9, 10, 3, 2, 1, 11, 12, 13, 14, 15, 16, 17, 18, 19, 20, 21, 22, 23, 24, 25, 26, 27, 28, 29, 30, 31, 32, 33, 34, 35, 36, 37, 38, 39, 40, 41, 42, 43, 44, 45, 46, 47, 48, 49, 50, 51, 52, 53, 54, 55, 56, 57, 58, 59, 60, 61, 62, 63, 64, 65, 66, 67, 68, 69, 70, 71, 72, 73, 74, 75, 76, 77, 78, 79, 80, 81, 82, 83, 84, 85, 86, 87, 88, 89, 90, 91, 92, 93, 94, 95, 96, 97, 98, 99, 100, 101, 151, 152, 153, 154, 155, 156, 157, 158, 159, 160, 161, 162, 163, 164, 165, 166, 167, 168] (by decide +kernel) (by decide +kernel)) (goodIn_sub (fun _ h => List.mem_cons_of_mem _ (List.mem_append_left _ (List.mem_append_left _ (List.mem_append_right _ h)))) (by decide +kernel))) (goodIn_sub (fun _ h => List.mem_cons_of_mem _ (List.mem_append_left _ (List.mem_append_right _ h))) (by decide +kernel))) (goodIn_sub (fun _ h => List.mem_cons_of_mem _ (List.mem_append_right _ h)) (by decide +kernel))
set_option maxRecDepth 20000 in
theorem gL_fills_L_fill : GoodIn wsL_fills (va_wsS RL 134 yL_fill wsL_fill) := goodIn_app (goodIn_of _ (by decide +kernel)) ggL_fills_L_fill
set_option maxRecDepth 20000 in
theorem ggL_fills_L_stands : GoodIn wsL_fills wsL_stands := goodIn_ca (goodIn_r _ [104, 105, 106, 6, 107, 8, 3, 108, 109, 110, 14, 111, 51, 112, 113, 114, 115, 17, 23, 24, 25, 26, 27, 151, 152, 153, 154, 155, 156, 157, 158, 159, 160, 161, 162, 163, 164, 165, 166, 167, 168] (by decide +kernel) (by decide +kernel)) (goodIn_sub (fun _ h => List.mem_cons_of_mem _ (List.mem_append_left _ (List.mem_append_left _ (List.mem_append_right _ h)))) (by decide +kernel))
set_option maxRecDepth 20000 in
theorem gL_fills_L_stands : GoodIn wsL_fills (va_wsS RL 98 yL_stands wsL_stands) := goodIn_app (goodIn_of _ (by decide +kernel)) ggL_fills_L_stands
set_option maxRecDepth 20000 in
theorem ggL_fills_L_breakOf : GoodIn wsL_fills wsL_breakOf := goodIn_ca (goodIn_r _ [118, 8, 3, 119, 120, 121, 14, 122, 52, 112, 113, 114, 115, 17, 23, 24, 25, 26, 27, 151, 152, 153, 154, 155, 156, 157, 158, 159, 160, 161, 162, 163, 164, 165, 166, 167, 168] (by decide +kernel) (by decide +kernel)) (goodIn_sub (fun _ h => List.mem_cons_of_mem _ (List.mem_append_left _ (List.mem_append_left _ (List.mem_append_right _ h)))) (by decide +kernel))
set_option maxRecDepth 20000 in
theorem gL_fills_L_breakOf : GoodIn wsL_fills (va_wsS RL 102 yL_breakOf wsL_breakOf) := goodIn_app (goodIn_of _ (by decide +kernel)) ggL_fills_L_breakOf
set_option maxRecDepth 20000 in
theorem ggL_fills_L_rating : GoodIn wsL_fills wsL_rating := goodIn_ca (goodIn_ca (goodIn_r _ [125, 8, 9, 3, 2, 126, 127, 128, 14, 129, 57, 130, 131, 132, 133, 66, 23, 24, 25, 26, 27, 134, 135, 136, 28, 29, 30, 31, 32, 33, 34, 35, 59, 60, 61, 151, 152, 153, 154, 155, 156, 157, 158, 159, 160, 161, 162, 163, 164, 165, 166, 167, 168] (by decide +kernel) (by decide +kernel)) (goodIn_sub (fun _ h => List.mem_cons_of_mem _ (List.mem_append_left _ (List.mem_append_left _ (List.mem_append_right _ h)))) (by decide +kernel))) (goodIn_sub (fun _ h => List.mem_cons_of_mem _ (List.mem_append_left _ (List.mem_append_right _ h))) (by decide +kernel))
set_option maxRecDepth 20000 in
theorem gL_fills_L_rating : GoodIn wsL_fills (va_wsS RL 118 yL_rating wsL_rating) := goodIn_app (goodIn_of _ (by decide +kernel)) ggL_fills_L_rating
set_option maxRecDepth 20000 in
theorem ggL_fills_L_whyNot : GoodIn wsL_fills wsL_whyNot := goodIn_ca (goodIn_r _ [139, 8, 3, 140, 141, 142, 14, 143, 18, 19, 20, 21, 22, 23, 24, 25, 26, 27, 130, 131, 132, 133, 66, 67, 68, 69, 70, 71, 72, 73, 74, 75, 76, 77, 78, 79, 17, 52, 50, 80, 81, 82, 83, 51, 53, 54, 55, 56, 57, 58, 59, 60, 61, 84, 85, 86, 87, 88, 89, 90, 91, 92, 93, 94, 95, 96, 151, 152, 153, 154, 155, 156, 157, 158, 159, 160, 161, 162, 163, 164, 165, 166, 167, 168] (by decide +kernel) (by decide +kernel)) (goodIn_sub (fun _ h => List.mem_cons_of_mem _ (List.mem_append_left _ (List.mem_append_left _ (List.mem_append_right _ h)))) (by decide +kernel))
set_option maxRecDepth 20000 in
theorem gL_fills_L_whyNot : GoodIn wsL_fills (va_wsS RL 136 yL_whyNot wsL_whyNot) := goodIn_app (goodIn_of _ (by decide +kernel)) ggL_fills_L_whyNot
set_option maxRecDepth 20000 in
theorem ggL_fills_L_place : GoodIn wsL_fills wsL_place := goodIn_ca (goodIn_ca (goodIn_r _ [146, 8, 10, 3, 1, 147, 148, 149, 14, 150, 16, 17, 18, 19, 20, 21, 22, 23, 24, 25, 26, 27, 130, 131, 132, 133, 66, 36, 37, 38, 39, 40, 67, 68, 69, 70, 71, 72, 73, 74, 75, 76, 77, 78, 79, 52, 50, 80, 81, 82, 83, 51, 53, 54, 55, 56, 57, 58, 59, 60, 61, 84, 85, 86, 87, 88, 89, 90, 91, 92, 93, 94, 95, 96, 97, 98, 99, 100, 101, 151, 152, 153, 154, 155, 156, 157, 158, 159, 160, 161, 162, 163, 164, 165, 166, 167, 168] (by decide +kernel) (by decide +kernel)) (goodIn_sub (fun _ h => List.mem_cons_of_mem _ (List.mem_append_left _ (List.mem_append_left _ (List.mem_append_right _ h)))) (by decide +kernel))) (goodIn_sub (fun _ h => List.mem_cons_of_mem _ (List.mem_append_right _ h)) (by decide +kernel))
set_option maxRecDepth 20000 in
theorem gL_fills_L_place : GoodIn wsL_fills (va_wsS RL 138 yL_place wsL_place) := goodIn_app (goodIn_of _ (by decide +kernel)) ggL_fills_L_place
theorem dL_fills_0 : decode cL_fills 0 = .ok (.aload_n 2, 1) := by decide +kernel
theorem dL_fills_1 : decode cL_fills 1 = .ok (.bipush 7, 2) := by decide +kernel
theorem dL_fills_3 : decode cL_fills 3 = .ok (.iload 5, 2) := by decide +kernel
theorem dL_fills_5 : decode cL_fills 5 = .ok (.imul, 1) := by decide +kernel
theorem dL_fills_6 : decode cL_fills 6 = .ok (.bipush 6, 2) := by decide +kernel
theorem dL_fills_8 : decode cL_fills 8 = .ok (.iadd, 1) := by decide +kernel
theorem dL_fills_9 : decode cL_fills 9 = .ok (.iaload, 1) := by decide +kernel
theorem dL_fills_10 : decode cL_fills 10 = .ok (.iconst 1, 1) := by decide +kernel
theorem dL_fills_11 : decode cL_fills 11 = .ok (.if_icmp .ne 35, 3) := by decide +kernel
theorem dL_fills_14 : decode cL_fills 14 = .ok (.aload_n 0, 1) := by decide +kernel
theorem dL_fills_15 : decode cL_fills 15 = .ok (.iload 5, 2) := by decide +kernel
theorem dL_fills_17 : decode cL_fills 17 = .ok (.iload 6, 2) := by decide +kernel
theorem dL_fills_19 : decode cL_fills 19 = .ok (.invokestatic 134, 3) := by decide +kernel
theorem dL_fills_22 : decode cL_fills 22 = .ok (.ldc 21, 2) := by decide +kernel
theorem dL_fills_24 : decode cL_fills 24 = .ok (.if_icmp .ne 20, 3) := by decide +kernel
theorem dL_fills_27 : decode cL_fills 27 = .ok (.aload_n 0, 1) := by decide +kernel
theorem dL_fills_28 : decode cL_fills 28 = .ok (.iload 5, 2) := by decide +kernel
theorem dL_fills_30 : decode cL_fills 30 = .ok (.bipush 25, 2) := by decide +kernel
theorem dL_fills_32 : decode cL_fills 32 = .ok (.invokestatic 134, 3) := by decide +kernel
theorem dL_fills_35 : decode cL_fills 35 = .ok (.ldc 18, 2) := by decide +kernel
theorem dL_fills_37 : decode cL_fills 37 = .ok (.if_icmp .ne 7, 3) := by decide +kernel
theorem dL_fills_40 : decode cL_fills 40 = .ok (.iconst 1, 1) := by decide +kernel
theorem dL_fills_41 : decode cL_fills 41 = .ok (.goto 4, 3) := by decide +kernel
theorem dL_fills_44 : decode cL_fills 44 = .ok (.iconst 0, 1) := by decide +kernel
theorem dL_fills_45 : decode cL_fills 45 = .ok (.ireturn, 1) := by decide +kernel
theorem dL_fills_46 : decode cL_fills 46 = .ok (.iconst 0, 1) := by decide +kernel
theorem dL_fills_47 : decode cL_fills 47 = .ok (.istore 7, 2) := by decide +kernel
theorem dL_fills_49 : decode cL_fills 49 = .ok (.iconst 1, 1) := by decide +kernel
theorem dL_fills_50 : decode cL_fills 50 = .ok (.istore 8, 2) := by decide +kernel
theorem dL_fills_52 : decode cL_fills 52 = .ok (.iload 8, 2) := by decide +kernel
theorem dL_fills_54 : decode cL_fills 54 = .ok (.ifCond .eq 227, 3) := by decide +kernel
theorem dL_fills_57 : decode cL_fills 57 = .ok (.iload 7, 2) := by decide +kernel
theorem dL_fills_59 : decode cL_fills 59 = .ok (.iload 6, 2) := by decide +kernel
theorem dL_fills_61 : decode cL_fills 61 = .ok (.if_icmp .ge 220, 3) := by decide +kernel
theorem dL_fills_64 : decode cL_fills 64 = .ok (.iconst 0, 1) := by decide +kernel
theorem dL_fills_65 : decode cL_fills 65 = .ok (.istore 9, 2) := by decide +kernel
theorem dL_fills_67 : decode cL_fills 67 = .ok (.iconst (-1), 1) := by decide +kernel
theorem dL_fills_68 : decode cL_fills 68 = .ok (.istore 10, 2) := by decide +kernel
theorem dL_fills_70 : decode cL_fills 70 = .ok (.iconst 0, 1) := by decide +kernel
theorem dL_fills_71 : decode cL_fills 71 = .ok (.istore 11, 2) := by decide +kernel
theorem dL_fills_73 : decode cL_fills 73 = .ok (.iload 11, 2) := by decide +kernel
theorem dL_fills_75 : decode cL_fills 75 = .ok (.aload 4, 2) := by decide +kernel
theorem dL_fills_77 : decode cL_fills 77 = .ok (.iconst 2, 1) := by decide +kernel
theorem dL_fills_78 : decode cL_fills 78 = .ok (.iaload, 1) := by decide +kernel
theorem dL_fills_79 : decode cL_fills 79 = .ok (.if_icmp .ge 58, 3) := by decide +kernel
theorem dL_fills_82 : decode cL_fills 82 = .ok (.iload 9, 2) := by decide +kernel
theorem dL_fills_84 : decode cL_fills 84 = .ok (.aload_n 3, 1) := by decide +kernel
theorem dL_fills_85 : decode cL_fills 85 = .ok (.iload 11, 2) := by decide +kernel
theorem dL_fills_87 : decode cL_fills 87 = .ok (.iaload, 1) := by decide +kernel
theorem dL_fills_88 : decode cL_fills 88 = .ok (.bipush 32, 2) := by decide +kernel
theorem dL_fills_90 : decode cL_fills 90 = .ok (.irem, 1) := by decide +kernel
theorem dL_fills_91 : decode cL_fills 91 = .ok (.iload 5, 2) := by decide +kernel
theorem dL_fills_93 : decode cL_fills 93 = .ok (.if_icmp .ne 34, 3) := by decide +kernel
theorem dL_fills_96 : decode cL_fills 96 = .ok (.aload_n 1, 1) := by decide +kernel
theorem dL_fills_97 : decode cL_fills 97 = .ok (.iload 11, 2) := by decide +kernel
theorem dL_fills_99 : decode cL_fills 99 = .ok (.invokestatic 98, 3) := by decide +kernel
theorem dL_fills_102 : decode cL_fills 102 = .ok (.ifCond .eq 25, 3) := by decide +kernel
theorem dL_fills_105 : decode cL_fills 105 = .ok (.aload_n 1, 1) := by decide +kernel
theorem dL_fills_106 : decode cL_fills 106 = .ok (.aload_n 1, 1) := by decide +kernel
theorem dL_fills_107 : decode cL_fills 107 = .ok (.iload 11, 2) := by decide +kernel
theorem dL_fills_109 : decode cL_fills 109 = .ok (.invokestatic 102, 3) := by decide +kernel
theorem dL_fills_112 : decode cL_fills 112 = .ok (.aload_n 2, 1) := by decide +kernel
theorem dL_fills_113 : decode cL_fills 113 = .ok (.bipush 7, 2) := by decide +kernel
theorem dL_fills_115 : decode cL_fills 115 = .ok (.iload 5, 2) := by decide +kernel
theorem dL_fills_117 : decode cL_fills 117 = .ok (.imul, 1) := by decide +kernel
theorem dL_fills_118 : decode cL_fills 118 = .ok (.iconst 2, 1) := by decide +kernel
theorem dL_fills_119 : decode cL_fills 119 = .ok (.iadd, 1) := by decide +kernel
theorem dL_fills_120 : decode cL_fills 120 = .ok (.iaload, 1) := by decide +kernel
theorem dL_fills_121 : decode cL_fills 121 = .ok (.invokestatic 118, 3) := by decide +kernel
theorem dL_fills_124 : decode cL_fills 124 = .ok (.goto 4, 3) := by decide +kernel
theorem dL_fills_127 : decode cL_fills 127 = .ok (.iconst 0, 1) := by decide +kernel
theorem dL_fills_128 : decode cL_fills 128 = .ok (.iadd, 1) := by decide +kernel
theorem dL_fills_129 : decode cL_fills 129 = .ok (.istore 9, 2) := by decide +kernel
theorem dL_fills_131 : decode cL_fills 131 = .ok (.iinc 11 1, 3) := by decide +kernel
theorem dL_fills_134 : decode cL_fills 134 = .ok (.goto (-61), 3) := by decide +kernel
theorem dL_fills_137 : decode cL_fills 137 = .ok (.iconst 0, 1) := by decide +kernel
theorem dL_fills_138 : decode cL_fills 138 = .ok (.istore 11, 2) := by decide +kernel
theorem dL_fills_140 : decode cL_fills 140 = .ok (.iload 11, 2) := by decide +kernel
theorem dL_fills_142 : decode cL_fills 142 = .ok (.aload 4, 2) := by decide +kernel
theorem dL_fills_144 : decode cL_fills 144 = .ok (.iconst 0, 1) := by decide +kernel
theorem dL_fills_145 : decode cL_fills 145 = .ok (.iaload, 1) := by decide +kernel
theorem dL_fills_146 : decode cL_fills 146 = .ok (.if_icmp .ge 67, 3) := by decide +kernel
theorem dL_fills_149 : decode cL_fills 149 = .ok (.aload_n 1, 1) := by decide +kernel
theorem dL_fills_150 : decode cL_fills 150 = .ok (.iload 5, 2) := by decide +kernel
theorem dL_fills_152 : decode cL_fills 152 = .ok (.iload 11, 2) := by decide +kernel
theorem dL_fills_154 : decode cL_fills 154 = .ok (.invokestatic 136, 3) := by decide +kernel
theorem dL_fills_157 : decode cL_fills 157 = .ok (.ifCond .ne 46, 3) := by decide +kernel
theorem dL_fills_160 : decode cL_fills 160 = .ok (.iload 10, 2) := by decide +kernel
theorem dL_fills_162 : decode cL_fills 162 = .ok (.ifCond .lt 36, 3) := by decide +kernel
theorem dL_fills_165 : decode cL_fills 165 = .ok (.aload_n 1, 1) := by decide +kernel
theorem dL_fills_166 : decode cL_fills 166 = .ok (.iload 11, 2) := by decide +kernel
theorem dL_fills_168 : decode cL_fills 168 = .ok (.aload_n 2, 1) := by decide +kernel
theorem dL_fills_169 : decode cL_fills 169 = .ok (.bipush 7, 2) := by decide +kernel
theorem dL_fills_171 : decode cL_fills 171 = .ok (.iload 5, 2) := by decide +kernel
theorem dL_fills_173 : decode cL_fills 173 = .ok (.imul, 1) := by decide +kernel
theorem dL_fills_174 : decode cL_fills 174 = .ok (.iconst 2, 1) := by decide +kernel
theorem dL_fills_175 : decode cL_fills 175 = .ok (.iadd, 1) := by decide +kernel
theorem dL_fills_176 : decode cL_fills 176 = .ok (.iaload, 1) := by decide +kernel
theorem dL_fills_177 : decode cL_fills 177 = .ok (.invokestatic 118, 3) := by decide +kernel
theorem dL_fills_180 : decode cL_fills 180 = .ok (.aload_n 1, 1) := by decide +kernel
theorem dL_fills_181 : decode cL_fills 181 = .ok (.iload 10, 2) := by decide +kernel
theorem dL_fills_183 : decode cL_fills 183 = .ok (.aload_n 2, 1) := by decide +kernel
theorem dL_fills_184 : decode cL_fills 184 = .ok (.bipush 7, 2) := by decide +kernel
theorem dL_fills_186 : decode cL_fills 186 = .ok (.iload 5, 2) := by decide +kernel
theorem dL_fills_188 : decode cL_fills 188 = .ok (.imul, 1) := by decide +kernel
theorem dL_fills_189 : decode cL_fills 189 = .ok (.iconst 2, 1) := by decide +kernel
theorem dL_fills_190 : decode cL_fills 190 = .ok (.iadd, 1) := by decide +kernel
theorem dL_fills_191 : decode cL_fills 191 = .ok (.iaload, 1) := by decide +kernel
theorem dL_fills_192 : decode cL_fills 192 = .ok (.invokestatic 118, 3) := by decide +kernel
theorem dL_fills_195 : decode cL_fills 195 = .ok (.if_icmp .le 8, 3) := by decide +kernel
theorem dL_fills_198 : decode cL_fills 198 = .ok (.iload 11, 2) := by decide +kernel
theorem dL_fills_200 : decode cL_fills 200 = .ok (.goto 5, 3) := by decide +kernel
theorem dL_fills_203 : decode cL_fills 203 = .ok (.iload 10, 2) := by decide +kernel
theorem dL_fills_205 : decode cL_fills 205 = .ok (.istore 10, 2) := by decide +kernel
theorem dL_fills_207 : decode cL_fills 207 = .ok (.iinc 11 1, 3) := by decide +kernel
theorem dL_fills_210 : decode cL_fills 210 = .ok (.goto (-70), 3) := by decide +kernel
theorem dL_fills_213 : decode cL_fills 213 = .ok (.iload 9, 2) := by decide +kernel
theorem dL_fills_215 : decode cL_fills 215 = .ok (.aload_n 2, 1) := by decide +kernel
theorem dL_fills_216 : decode cL_fills 216 = .ok (.bipush 7, 2) := by decide +kernel
theorem dL_fills_218 : decode cL_fills 218 = .ok (.iload 5, 2) := by decide +kernel
theorem dL_fills_220 : decode cL_fills 220 = .ok (.imul, 1) := by decide +kernel
theorem dL_fills_221 : decode cL_fills 221 = .ok (.iconst 5, 1) := by decide +kernel
theorem dL_fills_222 : decode cL_fills 222 = .ok (.iadd, 1) := by decide +kernel
theorem dL_fills_223 : decode cL_fills 223 = .ok (.iaload, 1) := by decide +kernel
theorem dL_fills_224 : decode cL_fills 224 = .ok (.if_icmp .ge 27, 3) := by decide +kernel
theorem dL_fills_227 : decode cL_fills 227 = .ok (.iload 10, 2) := by decide +kernel
theorem dL_fills_229 : decode cL_fills 229 = .ok (.ifCond .lt 22, 3) := by decide +kernel
theorem dL_fills_232 : decode cL_fills 232 = .ok (.aload_n 1, 1) := by decide +kernel
theorem dL_fills_233 : decode cL_fills 233 = .ok (.iload 5, 2) := by decide +kernel
theorem dL_fills_235 : decode cL_fills 235 = .ok (.iload 10, 2) := by decide +kernel
theorem dL_fills_237 : decode cL_fills 237 = .ok (.invokestatic 138, 3) := by decide +kernel
theorem dL_fills_240 : decode cL_fills 240 = .ok (.aload 4, 2) := by decide +kernel
theorem dL_fills_242 : decode cL_fills 242 = .ok (.iconst 2, 1) := by decide +kernel
theorem dL_fills_243 : decode cL_fills 243 = .ok (.iaload, 1) := by decide +kernel
theorem dL_fills_244 : decode cL_fills 244 = .ok (.if_icmp .ne 7, 3) := by decide +kernel
theorem dL_fills_247 : decode cL_fills 247 = .ok (.iconst 1, 1) := by decide +kernel
theorem dL_fills_248 : decode cL_fills 248 = .ok (.goto 4, 3) := by decide +kernel
theorem dL_fills_251 : decode cL_fills 251 = .ok (.iconst 0, 1) := by decide +kernel
theorem dL_fills_252 : decode cL_fills 252 = .ok (.istore 8, 2) := by decide +kernel
theorem dL_fills_254 : decode cL_fills 254 = .ok (.iload 8, 2) := by decide +kernel
theorem dL_fills_256 : decode cL_fills 256 = .ok (.ifCond .eq 22, 3) := by decide +kernel
theorem dL_fills_259 : decode cL_fills 259 = .ok (.aload_n 3, 1) := by decide +kernel
theorem dL_fills_260 : decode cL_fills 260 = .ok (.aload 4, 2) := by decide +kernel
theorem dL_fills_262 : decode cL_fills 262 = .ok (.iconst 2, 1) := by decide +kernel
theorem dL_fills_263 : decode cL_fills 263 = .ok (.iaload, 1) := by decide +kernel
theorem dL_fills_264 : decode cL_fills 264 = .ok (.iload 5, 2) := by decide +kernel
theorem dL_fills_266 : decode cL_fills 266 = .ok (.iastore, 1) := by decide +kernel
theorem dL_fills_267 : decode cL_fills 267 = .ok (.aload 4, 2) := by decide +kernel
theorem dL_fills_269 : decode cL_fills 269 = .ok (.iconst 2, 1) := by decide +kernel
theorem dL_fills_270 : decode cL_fills 270 = .ok (.dup2, 1) := by decide +kernel
theorem dL_fills_271 : decode cL_fills 271 = .ok (.iaload, 1) := by decide +kernel
theorem dL_fills_272 : decode cL_fills 272 = .ok (.iconst 1, 1) := by decide +kernel
theorem dL_fills_273 : decode cL_fills 273 = .ok (.iadd, 1) := by decide +kernel
theorem dL_fills_274 : decode cL_fills 274 = .ok (.iastore, 1) := by decide +kernel
theorem dL_fills_275 : decode cL_fills 275 = .ok (.iinc 7 1, 3) := by decide +kernel
theorem dL_fills_278 : decode cL_fills 278 = .ok (.goto (-226), 3) := by decide +kernel
theorem dL_fills_281 : decode cL_fills 281 = .ok (.aload_n 0, 1) := by decide +kernel
theorem dL_fills_282 : decode cL_fills 282 = .ok (.iload 5, 2) := by decide +kernel
theorem dL_fills_284 : decode cL_fills 284 = .ok (.iload 6, 2) := by decide +kernel
theorem dL_fills_286 : decode cL_fills 286 = .ok (.invokestatic 134, 3) := by decide +kernel
theorem dL_fills_289 : decode cL_fills 289 = .ok (.iload 7, 2) := by decide +kernel
theorem dL_fills_291 : decode cL_fills 291 = .ok (.if_icmp .ne 33, 3) := by decide +kernel
theorem dL_fills_294 : decode cL_fills 294 = .ok (.aload_n 0, 1) := by decide +kernel
theorem dL_fills_295 : decode cL_fills 295 = .ok (.iload 5, 2) := by decide +kernel
theorem dL_fills_297 : decode cL_fills 297 = .ok (.iconst 0, 1) := by decide +kernel
theorem dL_fills_298 : decode cL_fills 298 = .ok (.invokestatic 134, 3) := by decide +kernel
theorem dL_fills_301 : decode cL_fills 301 = .ok (.ldc 18, 2) := by decide +kernel
theorem dL_fills_303 : decode cL_fills 303 = .ok (.if_icmp .ne 21, 3) := by decide +kernel
theorem dL_fills_306 : decode cL_fills 306 = .ok (.aload_n 0, 1) := by decide +kernel
theorem dL_fills_307 : decode cL_fills 307 = .ok (.aload 4, 2) := by decide +kernel
theorem dL_fills_309 : decode cL_fills 309 = .ok (.iconst 1, 1) := by decide +kernel
theorem dL_fills_310 : decode cL_fills 310 = .ok (.iaload, 1) := by decide +kernel
theorem dL_fills_311 : decode cL_fills 311 = .ok (.iconst 0, 1) := by decide +kernel
theorem dL_fills_312 : decode cL_fills 312 = .ok (.invokestatic 134, 3) := by decide +kernel
theorem dL_fills_315 : decode cL_fills 315 = .ok (.ldc 28, 2) := by decide +kernel
theorem dL_fills_317 : decode cL_fills 317 = .ok (.if_icmp .ne 7, 3) := by decide +kernel
theorem dL_fills_320 : decode cL_fills 320 = .ok (.iconst 1, 1) := by decide +kernel
theorem dL_fills_321 : decode cL_fills 321 = .ok (.goto 4, 3) := by decide +kernel
theorem dL_fills_324 : decode cL_fills 324 = .ok (.iconst 0, 1) := by decide +kernel
theorem dL_fills_325 : decode cL_fills 325 = .ok (.ireturn, 1) := by decide +kernel
set_option maxRecDepth 20000 in
theorem ggL_acts_L_low : GoodIn wsL_acts wsL_low := goodIn_r _ [9, 10] (by decide +kernel) (by decide +kernel)
set_option maxRecDepth 20000 in
theorem gL_acts_L_low : GoodIn wsL_acts (va_wsS RL 140 yL_low wsL_low) := goodIn_app (goodIn_of _ (by decide +kernel)) ggL_acts_L_low
set_option maxRecDepth 20000 in
theorem ggL_acts_L_addBreak : GoodIn wsL_acts wsL_addBreak := goodIn_ca (goodIn_ca (goodIn_r _ [13, 14, 15, 2, 1, 16, 17, 18, 19, 20, 21, 22, 23, 24, 25, 26, 27, 28, 29, 30, 31, 32, 33, 34, 35, 265, 266, 267, 268, 269, 270, 271, 272, 273, 274, 275, 276, 277, 278, 279, 280, 281, 282] (by decide +kernel) (by decide +kernel)) (goodIn_sub (fun _ h => List.mem_cons_of_mem _ (List.mem_append_left _ (List.mem_append_left _ (List.mem_append_right _ h)))) (by decide +kernel))) (goodIn_sub (fun _ h => List.mem_cons_of_mem _ (List.mem_append_left _ (List.mem_append_right _ h))) (by decide +kernel))
set_option maxRecDepth 20000 in
theorem gL_acts_L_addBreak : GoodIn wsL_acts (va_wsS RL 143 yL_addBreak wsL_addBreak) := goodIn_app (goodIn_of _ (by decide +kernel)) ggL_acts_L_addBreak
set_option maxRecDepth 20000 in
theorem ggL_acts_L_addOrder : GoodIn wsL_acts wsL_addOrder := goodIn_ca (goodIn_ca (goodIn_r _ [38, 14, 15, 2, 1, 39, 40, 41, 19, 42, 43, 44, 45, 46, 47, 48, 49, 50, 51, 52, 53, 54, 55, 23, 24, 25, 26, 27, 28, 29, 30, 56, 57, 58, 59, 60, 61, 31, 32, 33, 34, 35, 265, 266, 267, 268, 269, 270, 271, 272, 273, 274, 275, 276, 277, 278, 279, 280, 281, 282] (by decide +kernel) (by decide +kernel)) (goodIn_sub (fun _ h => List.mem_cons_of_mem _ (List.mem_append_left _ (List.mem_append_left _ (List.mem_append_right _ h)))) (by decide +kernel))) (goodIn_sub (fun _ h => List.mem_cons_of_mem _ (List.mem_append_left _ (List.mem_append_right _ h))) (by decide +kernel))
set_option maxRecDepth 20000 in
theorem gL_acts_L_addOrder : GoodIn wsL_acts (va_wsS RL 146 yL_addOrder wsL_addOrder) := goodIn_app (goodIn_of _ (by decide +kernel)) ggL_acts_L_addOrder
set_option maxRecDepth 20000 in
theorem ggL_acts_L_rating : GoodIn wsL_acts wsL_rating := goodIn_ca (goodIn_ca (goodIn_r _ [64, 65, 14, 5, 2, 66, 67, 68, 19, 69, 70, 71, 72, 73, 74, 21, 75, 76, 77, 78, 79, 56, 57, 58, 23, 24, 25, 26, 27, 28, 29, 30, 80, 81, 82, 265, 266, 267, 268, 269, 270, 271, 272, 273, 274, 275, 276, 277, 278, 279, 280, 281, 282] (by decide +kernel) (by decide +kernel)) (goodIn_sub (fun _ h => List.mem_cons_of_mem _ (List.mem_append_right _ h)) (by decide +kernel))) (goodIn_sub (fun _ h => List.mem_cons_of_mem _ (List.mem_append_left _ (List.mem_append_left _ (List.mem_append_right _ h)))) (by decide +kernel))
set_option maxRecDepth 20000 in
theorem gL_acts_L_rating : GoodIn wsL_acts (va_wsS RL 118 yL_rating wsL_rating) := goodIn_app (goodIn_of _ (by decide +kernel)) ggL_acts_L_rating
set_option maxRecDepth 20000 in
theorem ggL_acts_L_rate : GoodIn wsL_acts wsL_rate := goodIn_ca (goodIn_ca (goodIn_r _ [85, 65, 14, 5, 2, 86, 87, 88, 19, 89, 44, 70, 71, 72, 73, 74, 21, 75, 76, 77, 78, 79, 56, 57, 58, 23, 24, 25, 26, 27, 28, 29, 30, 80, 81, 82, 265, 266, 267, 268, 269, 270, 271, 272, 273, 274, 275, 276, 277, 278, 279, 280, 281, 282] (by decide +kernel) (by decide +kernel)) (goodIn_sub (fun _ h => List.mem_cons_of_mem _ (List.mem_append_right _ h)) (by decide +kernel))) (goodIn_sub (fun _ h => List.mem_cons_of_mem _ (List.mem_append_left _ (List.mem_append_left _ (List.mem_append_right _ h)))) (by decide +kernel))
set_option maxRecDepth 20000 in
theorem gL_acts_L_rate : GoodIn wsL_acts (va_wsS RL 150 yL_rate wsL_rate) := goodIn_app (goodIn_of _ (by decide +kernel)) ggL_acts_L_rate
set_option maxRecDepth 20000 in
theorem ggL_acts_L_whyNot : GoodIn wsL_acts wsL_whyNot := goodIn_ca (goodIn_r _ [92, 65, 5, 93, 94, 95, 19, 96, 97, 98, 99, 100, 45, 75, 76, 77, 78, 79, 71, 72, 73, 74, 21, 101, 102, 103, 104, 105, 49, 52, 46, 106, 107, 108, 109, 22, 110, 111, 112, 113, 114, 115, 116, 117, 118, 119, 120, 121, 70, 48, 80, 81, 82, 122, 123, 124, 125, 126, 127, 128, 129, 130, 131, 132, 133, 47, 265, 266, 267, 268, 269, 270, 271, 272, 273, 274, 275, 276, 277, 278, 279, 280, 281, 282] (by decide +kernel) (by decide +kernel)) (goodIn_sub (fun _ h => List.mem_cons_of_mem _ (List.mem_append_right _ h)) (by decide +kernel))
set_option maxRecDepth 20000 in
theorem gL_acts_L_whyNot : GoodIn wsL_acts (va_wsS RL 136 yL_whyNot wsL_whyNot) := goodIn_app (goodIn_of _ (by decide +kernel)) ggL_acts_L_whyNot
set_option maxRecDepth 20000 in
theorem ggL_acts_L_rest : GoodIn wsL_acts wsL_rest := goodIn_ca (goodIn_r _ [136, 65, 5, 137, 138, 139, 19, 140, 97, 98, 99, 100, 45, 75, 76, 77, 78, 79, 141, 142, 143, 144, 110, 112, 145, 117, 111, 146, 147, 148, 149, 150, 151, 152, 153, 154, 51, 155, 156, 157, 158, 118, 119, 120, 121, 70, 48, 80, 81, 82, 265, 266, 267, 268, 269, 270, 271, 272, 273, 274, 275, 276, 277, 278, 279, 280, 281, 282] (by decide +kernel) (by decide +kernel)) (goodIn_sub (fun _ h => List.mem_cons_of_mem _ (List.mem_append_right _ h)) (by decide +kernel))
set_option maxRecDepth 20000 in
theorem gL_acts_L_rest : GoodIn wsL_acts (va_wsS RL 125 yL_rest wsL_rest) := goodIn_app (goodIn_of _ (by decide +kernel)) ggL_acts_L_rest
set_option maxRecDepth 20000 in
theorem ggL_acts_L_give : GoodIn wsL_acts wsL_give := goodIn_ca (goodIn_ca (goodIn_r _ [161, 65, 15, 5, 1, 162, 163, 164, 19, 165, 110, 97, 98, 99, 100, 45, 75, 76, 77, 78, 79, 71, 72, 73, 74, 21, 141, 142, 143, 144, 112, 145, 117, 111, 146, 147, 148, 149, 150, 151, 152, 153, 154, 51, 155, 156, 157, 158, 118, 119, 120, 121, 70, 48, 80, 81, 82, 31, 32, 33, 34, 35, 101, 102, 103, 104, 105, 49, 52, 46, 106, 107, 108, 109, 22, 113, 114, 115, 116, 122, 123, 124, 125, 126, 127, 128, 129, 130, 131, 132, 133, 47, 166, 167, 168, 169, 265, 266, 267, 268, 269, 270, 271, 272, 273, 274, 275, 276, 277, 278, 279, 280, 281, 282] (by decide +kernel) (by decide +kernel)) (goodIn_sub (fun _ h => List.mem_cons_of_mem _ (List.mem_append_right _ h)) (by decide +kernel))) (goodIn_sub (fun _ h => List.mem_cons_of_mem _ (List.mem_append_left _ (List.mem_append_right _ h))) (by decide +kernel))
set_option maxRecDepth 20000 in
theorem gL_acts_L_give : GoodIn wsL_acts (va_wsS RL 153 yL_give wsL_give) := goodIn_app (goodIn_of _ (by decide +kernel)) ggL_acts_L_give
set_option maxRecDepth 20000 in
theorem ggL_acts_L_place : GoodIn wsL_acts wsL_place := goodIn_ca (goodIn_ca (goodIn_r _ [172, 65, 15, 5, 1, 173, 174, 175, 19, 176, 154, 110, 97, 98, 99, 100, 45, 75, 76, 77, 78, 79, 71, 72, 73, 74, 21, 31, 32, 33, 34, 35, 101, 102, 103, 104, 105, 49, 52, 46, 106, 107, 108, 109, 22, 111, 112, 113, 114, 115, 116, 117, 118, 119, 120, 121, 70, 48, 80, 81, 82, 122, 123, 124, 125, 126, 127, 128, 129, 130, 131, 132, 133, 47, 166, 167, 168, 169, 145, 265, 266, 267, 268, 269, 270, 271, 272, 273, 274, 275, 276, 277, 278, 279, 280, 281, 282] (by decide +kernel) (by decide +kernel)) (goodIn_sub (fun _ h => List.mem_cons_of_mem _ (List.mem_append_right _ h)) (by decide +kernel))) (goodIn_sub (fun _ h => List.mem_cons_of_mem _ (List.mem_append_left _ (List.mem_append_right _ h))) (by decide +kernel))
set_option maxRecDepth 20000 in
theorem gL_acts_L_place : GoodIn wsL_acts (va_wsS RL 138 yL_place wsL_place) := goodIn_app (goodIn_of _ (by decide +kernel)) ggL_acts_L_place
set_option maxRecDepth 20000 in
theorem ggL_acts_L_stateOf : GoodIn wsL_acts wsL_stateOf := goodIn_ca (goodIn_r _ [179, 65, 5, 180, 181, 182, 19, 183, 117, 184, 185, 186, 187, 110, 75, 76, 77, 78, 79, 265, 266, 267, 268, 269, 270, 271, 272, 273, 274, 275, 276, 277, 278, 279, 280, 281, 282] (by decide +kernel) (by decide +kernel)) (goodIn_sub (fun _ h => List.mem_cons_of_mem _ (List.mem_append_right _ h)) (by decide +kernel))
set_option maxRecDepth 20000 in
theorem gL_acts_L_stateOf : GoodIn wsL_acts (va_wsS RL 93 yL_stateOf wsL_stateOf) := goodIn_app (goodIn_of _ (by decide +kernel)) ggL_acts_L_stateOf
set_option maxRecDepth 20000 in
theorem ggL_acts_L_breakOf : GoodIn wsL_acts wsL_breakOf := goodIn_ca (goodIn_r _ [190, 65, 5, 191, 192, 193, 19, 194, 111, 184, 185, 186, 187, 110, 75, 76, 77, 78, 79, 265, 266, 267, 268, 269, 270, 271, 272, 273, 274, 275, 276, 277, 278, 279, 280, 281, 282] (by decide +kernel) (by decide +kernel)) (goodIn_sub (fun _ h => List.mem_cons_of_mem _ (List.mem_append_right _ h)) (by decide +kernel))
set_option maxRecDepth 20000 in
theorem gL_acts_L_breakOf : GoodIn wsL_acts (va_wsS RL 102 yL_breakOf wsL_breakOf) := goodIn_app (goodIn_of _ (by decide +kernel)) ggL_acts_L_breakOf
set_option maxRecDepth 20000 in
theorem ggL_acts_L_fills : GoodIn wsL_acts wsL_fills := goodIn_ca (goodIn_ca (goodIn_ca (goodIn_r _ [197, 1, 2, 5, 198, 199, 8, 200, 65, 14, 15, 201, 202, 203, 19, 204, 154, 110, 97, 98, 99, 100, 45, 75, 76, 77, 78, 79, 23, 24, 25, 26, 27, 28, 29, 30, 31, 32, 33, 34, 35, 205, 206, 207, 208, 51, 155, 156, 157, 158, 112, 117, 111, 118, 119, 120, 121, 70, 48, 80, 81, 82, 209, 210, 211, 212, 21, 101, 102, 103, 104, 105, 49, 52, 46, 106, 107, 108, 109, 22, 113, 114, 115, 116, 122, 123, 124, 125, 126, 127, 128, 129, 130, 131, 132, 133, 47, 166, 167, 168, 169, 145, 213, 214, 215, 177, 178, 179, 180, 181, 182, 183, 184, 185, 186, 187, 188, 189, 190, 191, 192, 193, 194, 62, 63, 64, 66, 67, 68, 69, 71, 72, 73, 74, 56, 57, 58, 90, 91, 92, 93, 94, 95, 96, 170, 171, 172, 173, 174, 175, 176, 265, 266, 267, 268, 269, 270, 271, 272, 273, 274, 275, 276, 277, 278, 279, 280, 281, 282] rfl (by decide +kernel)) (goodIn_sub (fun _ h => List.mem_cons_of_mem _ (List.mem_append_right _ h)) (by decide +kernel))) (goodIn_sub (fun _ h => List.mem_cons_of_mem _ (List.mem_append_left _ (List.mem_append_left _ (List.mem_append_right _ h)))) (by decide +kernel))) (goodIn_sub (fun _ h => List.mem_cons_of_mem _ (List.mem_append_left _ (List.mem_append_right _ h))) (by decide +kernel))
set_option maxRecDepth 20000 in
theorem gL_acts_L_fills : GoodIn wsL_acts (va_wsS RL 155 yL_fills wsL_fills) := goodIn_app (goodIn_of _ (by decide +kernel)) ggL_acts_L_fills
set_option maxRecDepth 20000 in
theorem ggL_acts_L_move : GoodIn wsL_acts wsL_move := goodIn_ca (goodIn_ca (goodIn_r _ [218, 65, 15, 5, 1, 219, 220, 221, 19, 222, 117, 111, 112, 184, 185, 186, 187, 110, 75, 76, 77, 78, 79, 71, 72, 73, 74, 21, 31, 32, 33, 34, 35, 101, 102, 103, 104, 105, 49, 52, 46, 106, 107, 108, 109, 22, 113, 114, 115, 116, 118, 119, 120, 121, 70, 48, 80, 81, 82, 122, 123, 124, 125, 126, 127, 128, 129, 130, 131, 132, 133, 47, 265, 266, 267, 268, 269, 270, 271, 272, 273, 274, 275, 276, 277, 278, 279, 280, 281, 282] (by decide +kernel) (by decide +kernel)) (goodIn_sub (fun _ h => List.mem_cons_of_mem _ (List.mem_append_right _ h)) (by decide +kernel))) (goodIn_sub (fun _ h => List.mem_cons_of_mem _ (List.mem_append_left _ (List.mem_append_right _ h))) (by decide +kernel))
set_option maxRecDepth 20000 in
theorem gL_acts_L_move : GoodIn wsL_acts (va_wsS RL 159 yL_move wsL_move) := goodIn_app (goodIn_of _ (by decide +kernel)) ggL_acts_L_move
set_option maxRecDepth 20000 in
theorem ggL_acts_L_miss : GoodIn wsL_acts wsL_miss := goodIn_ca (goodIn_ca (goodIn_r _ [225, 65, 15, 5, 1, 226, 227, 228, 19, 229, 117, 184, 185, 186, 187, 110, 75, 76, 77, 78, 79, 113, 114, 115, 116, 31, 32, 33, 34, 35, 265, 266, 267, 268, 269, 270, 271, 272, 273, 274, 275, 276, 277, 278, 279, 280, 281, 282] (by decide +kernel) (by decide +kernel)) (goodIn_sub (fun _ h => List.mem_cons_of_mem _ (List.mem_append_right _ h)) (by decide +kernel))) (goodIn_sub (fun _ h => List.mem_cons_of_mem _ (List.mem_append_left _ (List.mem_append_right _ h))) (by decide +kernel))
set_option maxRecDepth 20000 in
theorem gL_acts_L_miss : GoodIn wsL_acts (va_wsS RL 161 yL_miss wsL_miss) := goodIn_app (goodIn_of _ (by decide +kernel)) ggL_acts_L_miss
set_option maxRecDepth 20000 in
theorem ggL_acts_L_drop : GoodIn wsL_acts wsL_drop := goodIn_ca (goodIn_ca (goodIn_r _ [232, 65, 15, 5, 1, 233, 234, 235, 19, 236, 117, 184, 185, 186, 187, 110, 75, 76, 77, 78, 79, 31, 32, 33, 34, 35, 265, 266, 267, 268, 269, 270, 271, 272, 273, 274, 275, 276, 277, 278, 279, 280, 281, 282] (by decide +kernel) (by decide +kernel)) (goodIn_sub (fun _ h => List.mem_cons_of_mem _ (List.mem_append_right _ h)) (by decide +kernel))) (goodIn_sub (fun _ h => List.mem_cons_of_mem _ (List.mem_append_left _ (List.mem_append_right _ h))) (by decide +kernel))
set_option maxRecDepth 20000 in
theorem gL_acts_L_drop : GoodIn wsL_acts (va_wsS RL 163 yL_drop wsL_drop) := goodIn_app (goodIn_of _ (by decide +kernel)) ggL_acts_L_drop
set_option maxRecDepth 20000 in
theorem ggL_acts_L_isAired : GoodIn wsL_acts wsL_isAired := goodIn_ca (goodIn_r _ [239, 65, 5, 240, 241, 242, 19, 243, 105, 71, 72, 73, 74, 21, 75, 76, 77, 78, 79, 265, 266, 267, 268, 269, 270, 271, 272, 273, 274, 275, 276, 277, 278, 279, 280, 281, 282] (by decide +kernel) (by decide +kernel)) (goodIn_sub (fun _ h => List.mem_cons_of_mem _ (List.mem_append_right _ h)) (by decide +kernel))
set_option maxRecDepth 20000 in
theorem gL_acts_L_isAired : GoodIn wsL_acts (va_wsS RL 106 yL_isAired wsL_isAired) := goodIn_app (goodIn_of _ (by decide +kernel)) ggL_acts_L_isAired
set_option maxRecDepth 20000 in
theorem ggL_acts_L_air : GoodIn wsL_acts wsL_air := goodIn_ca (goodIn_ca (goodIn_r _ [246, 65, 15, 5, 1, 247, 248, 249, 19, 250, 105, 110, 111, 117, 71, 72, 73, 74, 21, 75, 76, 77, 78, 79, 31, 32, 33, 34, 35, 265, 266, 267, 268, 269, 270, 271, 272, 273, 274, 275, 276, 277, 278, 279, 280, 281, 282] (by decide +kernel) (by decide +kernel)) (goodIn_sub (fun _ h => List.mem_cons_of_mem _ (List.mem_append_right _ h)) (by decide +kernel))) (goodIn_sub (fun _ h => List.mem_cons_of_mem _ (List.mem_append_left _ (List.mem_append_right _ h))) (by decide +kernel))
set_option maxRecDepth 20000 in
theorem gL_acts_L_air : GoodIn wsL_acts (va_wsS RL 165 yL_air wsL_air) := goodIn_app (goodIn_of _ (by decide +kernel)) ggL_acts_L_air
set_option maxRecDepth 20000 in
theorem ggL_acts_L_close : GoodIn wsL_acts wsL_close := goodIn_ca (goodIn_ca (goodIn_r _ [253, 65, 15, 5, 1, 254, 255, 256, 19, 257, 154, 110, 112, 117, 97, 98, 99, 100, 45, 75, 76, 77, 78, 79, 31, 32, 33, 34, 35, 150, 151, 152, 153, 51, 146, 147, 148, 149, 155, 156, 157, 158, 111, 118, 119, 120, 121, 70, 48, 80, 81, 82, 265, 266, 267, 268, 269, 270, 271, 272, 273, 274, 275, 276, 277, 278, 279, 280, 281, 282] (by decide +kernel) (by decide +kernel)) (goodIn_sub (fun _ h => List.mem_cons_of_mem _ (List.mem_append_right _ h)) (by decide +kernel))) (goodIn_sub (fun _ h => List.mem_cons_of_mem _ (List.mem_append_left _ (List.mem_append_right _ h))) (by decide +kernel))
set_option maxRecDepth 20000 in
theorem gL_acts_L_close : GoodIn wsL_acts (va_wsS RL 167 yL_close wsL_close) := goodIn_app (goodIn_of _ (by decide +kernel)) ggL_acts_L_close
set_option maxRecDepth 20000 in
theorem ggL_acts_L_owed : GoodIn wsL_acts wsL_owed := goodIn_ca (goodIn_r _ [260, 65, 5, 261, 262, 263, 19, 264, 97, 98, 99, 100, 45, 75, 76, 77, 78, 79, 150, 151, 152, 153, 154, 51, 146, 147, 148, 149, 155, 156, 157, 158, 110, 112, 117, 111, 118, 119, 120, 121, 70, 48, 80, 81, 82, 265, 266, 267, 268, 269, 270, 271, 272, 273, 274, 275, 276, 277, 278, 279, 280, 281, 282] (by decide +kernel) (by decide +kernel)) (goodIn_sub (fun _ h => List.mem_cons_of_mem _ (List.mem_append_right _ h)) (by decide +kernel))
set_option maxRecDepth 20000 in
theorem gL_acts_L_owed : GoodIn wsL_acts (va_wsS RL 123 yL_owed wsL_owed) := goodIn_app (goodIn_of _ (by decide +kernel)) ggL_acts_L_owed
theorem dL_acts_0 : decode cL_acts 0 = .ok (.iload 6, 2) := by decide +kernel
theorem dL_acts_2 : decode cL_acts 2 = .ok (.bipush 28, 2) := by decide +kernel
theorem dL_acts_4 : decode cL_acts 4 = .ok (.invokestatic 140, 3) := by decide +kernel
theorem dL_acts_7 : decode cL_acts 7 = .ok (.istore 8, 2) := by decide +kernel
theorem dL_acts_9 : decode cL_acts 9 = .ok (.aload 5, 2) := by decide +kernel
theorem dL_acts_11 : decode cL_acts 11 = .ok (.iconst 0, 1) := by decide +kernel
theorem dL_acts_12 : decode cL_acts 12 = .ok (.iaload, 1) := by decide +kernel
theorem dL_acts_13 : decode cL_acts 13 = .ok (.iconst 3, 1) := by decide +kernel
theorem dL_acts_14 : decode cL_acts 14 = .ok (.if_icmp .lt 8, 3) := by decide +kernel
theorem dL_acts_17 : decode cL_acts 17 = .ok (.iload 8, 2) := by decide +kernel
theorem dL_acts_19 : decode cL_acts 19 = .ok (.ifCond .ne 133, 3) := by decide +kernel
theorem dL_acts_22 : decode cL_acts 22 = .ok (.iload 7, 2) := by decide +kernel
theorem dL_acts_24 : decode cL_acts 24 = .ok (.iconst 3, 1) := by decide +kernel
theorem dL_acts_25 : decode cL_acts 25 = .ok (.invokestatic 140, 3) := by decide +kernel
theorem dL_acts_28 : decode cL_acts 28 = .ok (.ifCond .ne 19, 3) := by decide +kernel
theorem dL_acts_31 : decode cL_acts 31 = .ok (.bipush 15, 2) := by decide +kernel
theorem dL_acts_33 : decode cL_acts 33 = .ok (.iload 7, 2) := by decide +kernel
theorem dL_acts_35 : decode cL_acts 35 = .ok (.iconst 2, 1) := by decide +kernel
theorem dL_acts_36 : decode cL_acts 36 = .ok (.ishr, 1) := by decide +kernel
theorem dL_acts_37 : decode cL_acts 37 = .ok (.sipush 586, 3) := by decide +kernel
theorem dL_acts_40 : decode cL_acts 40 = .ok (.invokestatic 140, 3) := by decide +kernel
theorem dL_acts_43 : decode cL_acts 43 = .ok (.iadd, 1) := by decide +kernel
theorem dL_acts_44 : decode cL_acts 44 = .ok (.goto 16, 3) := by decide +kernel
theorem dL_acts_47 : decode cL_acts 47 = .ok (.bipush 30, 2) := by decide +kernel
theorem dL_acts_49 : decode cL_acts 49 = .ok (.iconst 1, 1) := by decide +kernel
theorem dL_acts_50 : decode cL_acts 50 = .ok (.iload 7, 2) := by decide +kernel
theorem dL_acts_52 : decode cL_acts 52 = .ok (.iconst 2, 1) := by decide +kernel
theorem dL_acts_53 : decode cL_acts 53 = .ok (.ishr, 1) := by decide +kernel
theorem dL_acts_54 : decode cL_acts 54 = .ok (.iconst 5, 1) := by decide +kernel
theorem dL_acts_55 : decode cL_acts 55 = .ok (.invokestatic 140, 3) := by decide +kernel
theorem dL_acts_58 : decode cL_acts 58 = .ok (.iadd, 1) := by decide +kernel
theorem dL_acts_59 : decode cL_acts 59 = .ok (.imul, 1) := by decide +kernel
theorem dL_acts_60 : decode cL_acts 60 = .ok (.istore 9, 2) := by decide +kernel
theorem dL_acts_62 : decode cL_acts 62 = .ok (.aload 5, 2) := by decide +kernel
theorem dL_acts_64 : decode cL_acts 64 = .ok (.iconst 0, 1) := by decide +kernel
theorem dL_acts_65 : decode cL_acts 65 = .ok (.iaload, 1) := by decide +kernel
theorem dL_acts_66 : decode cL_acts 66 = .ok (.bipush 24, 2) := by decide +kernel
theorem dL_acts_68 : decode cL_acts 68 = .ok (.if_icmp .ge 10, 3) := by decide +kernel
theorem dL_acts_71 : decode cL_acts 71 = .ok (.aload 5, 2) := by decide +kernel
theorem dL_acts_73 : decode cL_acts 73 = .ok (.iconst 0, 1) := by decide +kernel
theorem dL_acts_74 : decode cL_acts 74 = .ok (.iaload, 1) := by decide +kernel
theorem dL_acts_75 : decode cL_acts 75 = .ok (.goto 5, 3) := by decide +kernel
theorem dL_acts_78 : decode cL_acts 78 = .ok (.ldc 21, 2) := by decide +kernel
theorem dL_acts_80 : decode cL_acts 80 = .ok (.istore 10, 2) := by decide +kernel
theorem dL_acts_82 : decode cL_acts 82 = .ok (.iload 10, 2) := by decide +kernel
theorem dL_acts_84 : decode cL_acts 84 = .ok (.ifCond .lt 17, 3) := by decide +kernel
theorem dL_acts_87 : decode cL_acts 87 = .ok (.aload_n 3, 1) := by decide +kernel
theorem dL_acts_88 : decode cL_acts 88 = .ok (.iload 10, 2) := by decide +kernel
theorem dL_acts_90 : decode cL_acts 90 = .ok (.iload 9, 2) := by decide +kernel
theorem dL_acts_92 : decode cL_acts 92 = .ok (.iastore, 1) := by decide +kernel
theorem dL_acts_93 : decode cL_acts 93 = .ok (.aload 5, 2) := by decide +kernel
theorem dL_acts_95 : decode cL_acts 95 = .ok (.iconst 0, 1) := by decide +kernel
theorem dL_acts_96 : decode cL_acts 96 = .ok (.dup2, 1) := by decide +kernel
theorem dL_acts_97 : decode cL_acts 97 = .ok (.iaload, 1) := by decide +kernel
theorem dL_acts_98 : decode cL_acts 98 = .ok (.iconst 1, 1) := by decide +kernel
theorem dL_acts_99 : decode cL_acts 99 = .ok (.iadd, 1) := by decide +kernel
theorem dL_acts_100 : decode cL_acts 100 = .ok (.iastore, 1) := by decide +kernel
theorem dL_acts_101 : decode cL_acts 101 = .ok (.aload_n 0, 1) := by decide +kernel
theorem dL_acts_102 : decode cL_acts 102 = .ok (.iload 9, 2) := by decide +kernel
theorem dL_acts_104 : decode cL_acts 104 = .ok (.invokestatic 143, 3) := by decide +kernel
theorem dL_acts_107 : decode cL_acts 107 = .ok (.iload 10, 2) := by decide +kernel
theorem dL_acts_109 : decode cL_acts 109 = .ok (.if_icmp .ne 41, 3) := by decide +kernel
theorem dL_acts_112 : decode cL_acts 112 = .ok (.aload_n 1, 1) := by decide +kernel
theorem dL_acts_113 : decode cL_acts 113 = .ok (.iload 9, 2) := by decide +kernel
theorem dL_acts_115 : decode cL_acts 115 = .ok (.invokestatic 143, 3) := by decide +kernel
theorem dL_acts_118 : decode cL_acts 118 = .ok (.iload 10, 2) := by decide +kernel
theorem dL_acts_120 : decode cL_acts 120 = .ok (.if_icmp .ne 30, 3) := by decide +kernel
theorem dL_acts_123 : decode cL_acts 123 = .ok (.aload_n 0, 1) := by decide +kernel
theorem dL_acts_124 : decode cL_acts 124 = .ok (.bipush 14, 2) := by decide +kernel
theorem dL_acts_126 : decode cL_acts 126 = .ok (.invokestatic 143, 3) := by decide +kernel
theorem dL_acts_129 : decode cL_acts 129 = .ok (.ldc 18, 2) := by decide +kernel
theorem dL_acts_131 : decode cL_acts 131 = .ok (.if_icmp .ne 19, 3) := by decide +kernel
theorem dL_acts_134 : decode cL_acts 134 = .ok (.aload_n 0, 1) := by decide +kernel
theorem dL_acts_135 : decode cL_acts 135 = .ok (.sipush 601, 3) := by decide +kernel
theorem dL_acts_138 : decode cL_acts 138 = .ok (.invokestatic 143, 3) := by decide +kernel
theorem dL_acts_141 : decode cL_acts 141 = .ok (.ldc 18, 2) := by decide +kernel
theorem dL_acts_143 : decode cL_acts 143 = .ok (.if_icmp .ne 7, 3) := by decide +kernel
theorem dL_acts_146 : decode cL_acts 146 = .ok (.iconst 1, 1) := by decide +kernel
theorem dL_acts_147 : decode cL_acts 147 = .ok (.goto 4, 3) := by decide +kernel
theorem dL_acts_150 : decode cL_acts 150 = .ok (.iconst 0, 1) := by decide +kernel
theorem dL_acts_151 : decode cL_acts 151 = .ok (.ireturn, 1) := by decide +kernel
theorem dL_acts_152 : decode cL_acts 152 = .ok (.aload 5, 2) := by decide +kernel
theorem dL_acts_154 : decode cL_acts 154 = .ok (.iconst 1, 1) := by decide +kernel
theorem dL_acts_155 : decode cL_acts 155 = .ok (.iaload, 1) := by decide +kernel
theorem dL_acts_156 : decode cL_acts 156 = .ok (.iconst 3, 1) := by decide +kernel
theorem dL_acts_157 : decode cL_acts 157 = .ok (.if_icmp .lt 18, 3) := by decide +kernel
theorem dL_acts_160 : decode cL_acts 160 = .ok (.iload 8, 2) := by decide +kernel
theorem dL_acts_162 : decode cL_acts 162 = .ok (.iconst 1, 1) := by decide +kernel
theorem dL_acts_163 : decode cL_acts 163 = .ok (.if_icmp .ne 302, 3) := by decide +kernel
theorem dL_acts_166 : decode cL_acts 166 = .ok (.aload 5, 2) := by decide +kernel
theorem dL_acts_168 : decode cL_acts 168 = .ok (.iconst 1, 1) := by decide +kernel
theorem dL_acts_169 : decode cL_acts 169 = .ok (.iaload, 1) := by decide +kernel
theorem dL_acts_170 : decode cL_acts 170 = .ok (.bipush 9, 2) := by decide +kernel
theorem dL_acts_172 : decode cL_acts 172 = .ok (.if_icmp .ge 293, 3) := by decide +kernel
theorem dL_acts_175 : decode cL_acts 175 = .ok (.bipush 7, 2) := by decide +kernel
theorem dL_acts_177 : decode cL_acts 177 = .ok (.aload 5, 2) := by decide +kernel
theorem dL_acts_179 : decode cL_acts 179 = .ok (.iconst 1, 1) := by decide +kernel
theorem dL_acts_180 : decode cL_acts 180 = .ok (.iaload, 1) := by decide +kernel
theorem dL_acts_181 : decode cL_acts 181 = .ok (.imul, 1) := by decide +kernel
theorem dL_acts_182 : decode cL_acts 182 = .ok (.istore 9, 2) := by decide +kernel
theorem dL_acts_184 : decode cL_acts 184 = .ok (.aload_n 2, 1) := by decide +kernel
theorem dL_acts_185 : decode cL_acts 185 = .ok (.iload 9, 2) := by decide +kernel
theorem dL_acts_187 : decode cL_acts 187 = .ok (.iload 7, 2) := by decide +kernel
theorem dL_acts_189 : decode cL_acts 189 = .ok (.iconst 4, 1) := by decide +kernel
theorem dL_acts_190 : decode cL_acts 190 = .ok (.invokestatic 140, 3) := by decide +kernel
theorem dL_acts_193 : decode cL_acts 193 = .ok (.iastore, 1) := by decide +kernel
theorem dL_acts_194 : decode cL_acts 194 = .ok (.aload_n 2, 1) := by decide +kernel
theorem dL_acts_195 : decode cL_acts 195 = .ok (.iload 9, 2) := by decide +kernel
theorem dL_acts_197 : decode cL_acts 197 = .ok (.iconst 1, 1) := by decide +kernel
theorem dL_acts_198 : decode cL_acts 198 = .ok (.iadd, 1) := by decide +kernel
theorem dL_acts_199 : decode cL_acts 199 = .ok (.iload 7, 2) := by decide +kernel
theorem dL_acts_201 : decode cL_acts 201 = .ok (.iconst 2, 1) := by decide +kernel
theorem dL_acts_202 : decode cL_acts 202 = .ok (.ishr, 1) := by decide +kernel
theorem dL_acts_203 : decode cL_acts 203 = .ok (.iconst 2, 1) := by decide +kernel
theorem dL_acts_204 : decode cL_acts 204 = .ok (.invokestatic 140, 3) := by decide +kernel
theorem dL_acts_207 : decode cL_acts 207 = .ok (.iastore, 1) := by decide +kernel
theorem dL_acts_208 : decode cL_acts 208 = .ok (.aload_n 2, 1) := by decide +kernel
theorem dL_acts_209 : decode cL_acts 209 = .ok (.iload 9, 2) := by decide +kernel
theorem dL_acts_211 : decode cL_acts 211 = .ok (.iconst 2, 1) := by decide +kernel
theorem dL_acts_212 : decode cL_acts 212 = .ok (.iadd, 1) := by decide +kernel
theorem dL_acts_213 : decode cL_acts 213 = .ok (.iload 7, 2) := by decide +kernel
theorem dL_acts_215 : decode cL_acts 215 = .ok (.iconst 3, 1) := by decide +kernel
theorem dL_acts_216 : decode cL_acts 216 = .ok (.ishr, 1) := by decide +kernel
theorem dL_acts_217 : decode cL_acts 217 = .ok (.iconst 3, 1) := by decide +kernel
theorem dL_acts_218 : decode cL_acts 218 = .ok (.invokestatic 140, 3) := by decide +kernel
theorem dL_acts_221 : decode cL_acts 221 = .ok (.iastore, 1) := by decide +kernel
theorem dL_acts_222 : decode cL_acts 222 = .ok (.aload_n 2, 1) := by decide +kernel
theorem dL_acts_223 : decode cL_acts 223 = .ok (.iload 9, 2) := by decide +kernel
theorem dL_acts_225 : decode cL_acts 225 = .ok (.iconst 3, 1) := by decide +kernel
theorem dL_acts_226 : decode cL_acts 226 = .ok (.iadd, 1) := by decide +kernel
theorem dL_acts_227 : decode cL_acts 227 = .ok (.iload 7, 2) := by decide +kernel
theorem dL_acts_229 : decode cL_acts 229 = .ok (.iconst 5, 1) := by decide +kernel
theorem dL_acts_230 : decode cL_acts 230 = .ok (.ishr, 1) := by decide +kernel
theorem dL_acts_231 : decode cL_acts 231 = .ok (.iconst 3, 1) := by decide +kernel
theorem dL_acts_232 : decode cL_acts 232 = .ok (.invokestatic 140, 3) := by decide +kernel
theorem dL_acts_235 : decode cL_acts 235 = .ok (.ifCond .ne 8, 3) := by decide +kernel
theorem dL_acts_238 : decode cL_acts 238 = .ok (.bipush 60, 2) := by decide +kernel
theorem dL_acts_240 : decode cL_acts 240 = .ok (.goto 17, 3) := by decide +kernel
theorem dL_acts_243 : decode cL_acts 243 = .ok (.bipush 15, 2) := by decide +kernel
theorem dL_acts_245 : decode cL_acts 245 = .ok (.iconst 1, 1) := by decide +kernel
theorem dL_acts_246 : decode cL_acts 246 = .ok (.iload 7, 2) := by decide +kernel
theorem dL_acts_248 : decode cL_acts 248 = .ok (.bipush 7, 2) := by decide +kernel
theorem dL_acts_250 : decode cL_acts 250 = .ok (.ishr, 1) := by decide +kernel
theorem dL_acts_251 : decode cL_acts 251 = .ok (.iconst 2, 1) := by decide +kernel
theorem dL_acts_252 : decode cL_acts 252 = .ok (.invokestatic 140, 3) := by decide +kernel
theorem dL_acts_255 : decode cL_acts 255 = .ok (.iadd, 1) := by decide +kernel
theorem dL_acts_256 : decode cL_acts 256 = .ok (.imul, 1) := by decide +kernel
theorem dL_acts_257 : decode cL_acts 257 = .ok (.iastore, 1) := by decide +kernel
theorem dL_acts_258 : decode cL_acts 258 = .ok (.aload_n 2, 1) := by decide +kernel
theorem dL_acts_259 : decode cL_acts 259 = .ok (.iload 9, 2) := by decide +kernel
theorem dL_acts_261 : decode cL_acts 261 = .ok (.iconst 4, 1) := by decide +kernel
theorem dL_acts_262 : decode cL_acts 262 = .ok (.iadd, 1) := by decide +kernel
theorem dL_acts_263 : decode cL_acts 263 = .ok (.iload 7, 2) := by decide +kernel
theorem dL_acts_265 : decode cL_acts 265 = .ok (.bipush 8, 2) := by decide +kernel
theorem dL_acts_267 : decode cL_acts 267 = .ok (.ishr, 1) := by decide +kernel
theorem dL_acts_268 : decode cL_acts 268 = .ok (.ldc 145, 2) := by decide +kernel
theorem dL_acts_270 : decode cL_acts 270 = .ok (.invokestatic 140, 3) := by decide +kernel
theorem dL_acts_273 : decode cL_acts 273 = .ok (.iastore, 1) := by decide +kernel
theorem dL_acts_274 : decode cL_acts 274 = .ok (.aload_n 2, 1) := by decide +kernel
theorem dL_acts_275 : decode cL_acts 275 = .ok (.iload 9, 2) := by decide +kernel
theorem dL_acts_277 : decode cL_acts 277 = .ok (.iconst 5, 1) := by decide +kernel
theorem dL_acts_278 : decode cL_acts 278 = .ok (.iadd, 1) := by decide +kernel
theorem dL_acts_279 : decode cL_acts 279 = .ok (.iload 7, 2) := by decide +kernel
theorem dL_acts_281 : decode cL_acts 281 = .ok (.iconst 4, 1) := by decide +kernel
theorem dL_acts_282 : decode cL_acts 282 = .ok (.ishr, 1) := by decide +kernel
theorem dL_acts_283 : decode cL_acts 283 = .ok (.sipush 500, 3) := by decide +kernel
theorem dL_acts_286 : decode cL_acts 286 = .ok (.invokestatic 140, 3) := by decide +kernel
theorem dL_acts_289 : decode cL_acts 289 = .ok (.iastore, 1) := by decide +kernel
theorem dL_acts_290 : decode cL_acts 290 = .ok (.iload 7, 2) := by decide +kernel
theorem dL_acts_292 : decode cL_acts 292 = .ok (.bipush 9, 2) := by decide +kernel
theorem dL_acts_294 : decode cL_acts 294 = .ok (.ishr, 1) := by decide +kernel
theorem dL_acts_295 : decode cL_acts 295 = .ok (.iconst 2, 1) := by decide +kernel
theorem dL_acts_296 : decode cL_acts 296 = .ok (.invokestatic 140, 3) := by decide +kernel
theorem dL_acts_299 : decode cL_acts 299 = .ok (.ifCond .ne 7, 3) := by decide +kernel
theorem dL_acts_302 : decode cL_acts 302 = .ok (.iconst 0, 1) := by decide +kernel
theorem dL_acts_303 : decode cL_acts 303 = .ok (.goto 13, 3) := by decide +kernel
theorem dL_acts_306 : decode cL_acts 306 = .ok (.iload 7, 2) := by decide +kernel
theorem dL_acts_308 : decode cL_acts 308 = .ok (.bipush 10, 2) := by decide +kernel
theorem dL_acts_310 : decode cL_acts 310 = .ok (.ishr, 1) := by decide +kernel
theorem dL_acts_311 : decode cL_acts 311 = .ok (.bipush 90, 2) := by decide +kernel
theorem dL_acts_313 : decode cL_acts 313 = .ok (.invokestatic 140, 3) := by decide +kernel
theorem dL_acts_316 : decode cL_acts 316 = .ok (.istore 10, 2) := by decide +kernel
theorem dL_acts_318 : decode cL_acts 318 = .ok (.aload 5, 2) := by decide +kernel
theorem dL_acts_320 : decode cL_acts 320 = .ok (.iconst 1, 1) := by decide +kernel
theorem dL_acts_321 : decode cL_acts 321 = .ok (.dup2, 1) := by decide +kernel
theorem dL_acts_322 : decode cL_acts 322 = .ok (.iaload, 1) := by decide +kernel
theorem dL_acts_323 : decode cL_acts 323 = .ok (.iconst 1, 1) := by decide +kernel
theorem dL_acts_324 : decode cL_acts 324 = .ok (.iadd, 1) := by decide +kernel
theorem dL_acts_325 : decode cL_acts 325 = .ok (.iastore, 1) := by decide +kernel
theorem dL_acts_326 : decode cL_acts 326 = .ok (.aload_n 0, 1) := by decide +kernel
theorem dL_acts_327 : decode cL_acts 327 = .ok (.aload_n 2, 1) := by decide +kernel
theorem dL_acts_328 : decode cL_acts 328 = .ok (.iload 9, 2) := by decide +kernel
theorem dL_acts_330 : decode cL_acts 330 = .ok (.iaload, 1) := by decide +kernel
theorem dL_acts_331 : decode cL_acts 331 = .ok (.aload_n 2, 1) := by decide +kernel
theorem dL_acts_332 : decode cL_acts 332 = .ok (.iload 9, 2) := by decide +kernel
theorem dL_acts_334 : decode cL_acts 334 = .ok (.iconst 1, 1) := by decide +kernel
theorem dL_acts_335 : decode cL_acts 335 = .ok (.iadd, 1) := by decide +kernel
theorem dL_acts_336 : decode cL_acts 336 = .ok (.iaload, 1) := by decide +kernel
theorem dL_acts_337 : decode cL_acts 337 = .ok (.aload_n 2, 1) := by decide +kernel
theorem dL_acts_338 : decode cL_acts 338 = .ok (.iload 9, 2) := by decide +kernel
theorem dL_acts_340 : decode cL_acts 340 = .ok (.iconst 2, 1) := by decide +kernel
theorem dL_acts_341 : decode cL_acts 341 = .ok (.iadd, 1) := by decide +kernel
theorem dL_acts_342 : decode cL_acts 342 = .ok (.iaload, 1) := by decide +kernel
theorem dL_acts_343 : decode cL_acts 343 = .ok (.aload_n 2, 1) := by decide +kernel
theorem dL_acts_344 : decode cL_acts 344 = .ok (.iload 9, 2) := by decide +kernel
theorem dL_acts_346 : decode cL_acts 346 = .ok (.iconst 3, 1) := by decide +kernel
theorem dL_acts_347 : decode cL_acts 347 = .ok (.iadd, 1) := by decide +kernel
theorem dL_acts_348 : decode cL_acts 348 = .ok (.iaload, 1) := by decide +kernel
theorem dL_acts_349 : decode cL_acts 349 = .ok (.aload_n 2, 1) := by decide +kernel
theorem dL_acts_350 : decode cL_acts 350 = .ok (.iload 9, 2) := by decide +kernel
theorem dL_acts_352 : decode cL_acts 352 = .ok (.iconst 4, 1) := by decide +kernel
theorem dL_acts_353 : decode cL_acts 353 = .ok (.iadd, 1) := by decide +kernel
theorem dL_acts_354 : decode cL_acts 354 = .ok (.iaload, 1) := by decide +kernel
theorem dL_acts_355 : decode cL_acts 355 = .ok (.aload_n 2, 1) := by decide +kernel
theorem dL_acts_356 : decode cL_acts 356 = .ok (.iload 9, 2) := by decide +kernel
theorem dL_acts_358 : decode cL_acts 358 = .ok (.iconst 5, 1) := by decide +kernel
theorem dL_acts_359 : decode cL_acts 359 = .ok (.iadd, 1) := by decide +kernel
theorem dL_acts_360 : decode cL_acts 360 = .ok (.iaload, 1) := by decide +kernel
theorem dL_acts_361 : decode cL_acts 361 = .ok (.iload 10, 2) := by decide +kernel
theorem dL_acts_363 : decode cL_acts 363 = .ok (.invokestatic 146, 3) := by decide +kernel
theorem dL_acts_366 : decode cL_acts 366 = .ok (.aload 5, 2) := by decide +kernel
theorem dL_acts_368 : decode cL_acts 368 = .ok (.iconst 1, 1) := by decide +kernel
theorem dL_acts_369 : decode cL_acts 369 = .ok (.iaload, 1) := by decide +kernel
theorem dL_acts_370 : decode cL_acts 370 = .ok (.iconst 1, 1) := by decide +kernel
theorem dL_acts_371 : decode cL_acts 371 = .ok (.isub, 1) := by decide +kernel
theorem dL_acts_372 : decode cL_acts 372 = .ok (.if_icmp .ne 91, 3) := by decide +kernel
theorem dL_acts_375 : decode cL_acts 375 = .ok (.aload_n 1, 1) := by decide +kernel
theorem dL_acts_376 : decode cL_acts 376 = .ok (.aload_n 2, 1) := by decide +kernel
theorem dL_acts_377 : decode cL_acts 377 = .ok (.iload 9, 2) := by decide +kernel
theorem dL_acts_379 : decode cL_acts 379 = .ok (.iaload, 1) := by decide +kernel
theorem dL_acts_380 : decode cL_acts 380 = .ok (.aload_n 2, 1) := by decide +kernel
theorem dL_acts_381 : decode cL_acts 381 = .ok (.iload 9, 2) := by decide +kernel
theorem dL_acts_383 : decode cL_acts 383 = .ok (.iconst 1, 1) := by decide +kernel
theorem dL_acts_384 : decode cL_acts 384 = .ok (.iadd, 1) := by decide +kernel
theorem dL_acts_385 : decode cL_acts 385 = .ok (.iaload, 1) := by decide +kernel
theorem dL_acts_386 : decode cL_acts 386 = .ok (.aload_n 2, 1) := by decide +kernel
theorem dL_acts_387 : decode cL_acts 387 = .ok (.iload 9, 2) := by decide +kernel
theorem dL_acts_389 : decode cL_acts 389 = .ok (.iconst 2, 1) := by decide +kernel
theorem dL_acts_390 : decode cL_acts 390 = .ok (.iadd, 1) := by decide +kernel
theorem dL_acts_391 : decode cL_acts 391 = .ok (.iaload, 1) := by decide +kernel
theorem dL_acts_392 : decode cL_acts 392 = .ok (.aload_n 2, 1) := by decide +kernel
theorem dL_acts_393 : decode cL_acts 393 = .ok (.iload 9, 2) := by decide +kernel
theorem dL_acts_395 : decode cL_acts 395 = .ok (.iconst 3, 1) := by decide +kernel
theorem dL_acts_396 : decode cL_acts 396 = .ok (.iadd, 1) := by decide +kernel
theorem dL_acts_397 : decode cL_acts 397 = .ok (.iaload, 1) := by decide +kernel
theorem dL_acts_398 : decode cL_acts 398 = .ok (.aload_n 2, 1) := by decide +kernel
theorem dL_acts_399 : decode cL_acts 399 = .ok (.iload 9, 2) := by decide +kernel
theorem dL_acts_401 : decode cL_acts 401 = .ok (.iconst 4, 1) := by decide +kernel
theorem dL_acts_402 : decode cL_acts 402 = .ok (.iadd, 1) := by decide +kernel
theorem dL_acts_403 : decode cL_acts 403 = .ok (.iaload, 1) := by decide +kernel
theorem dL_acts_404 : decode cL_acts 404 = .ok (.aload_n 2, 1) := by decide +kernel
theorem dL_acts_405 : decode cL_acts 405 = .ok (.iload 9, 2) := by decide +kernel
theorem dL_acts_407 : decode cL_acts 407 = .ok (.iconst 5, 1) := by decide +kernel
theorem dL_acts_408 : decode cL_acts 408 = .ok (.iadd, 1) := by decide +kernel
theorem dL_acts_409 : decode cL_acts 409 = .ok (.iaload, 1) := by decide +kernel
theorem dL_acts_410 : decode cL_acts 410 = .ok (.iload 10, 2) := by decide +kernel
theorem dL_acts_412 : decode cL_acts 412 = .ok (.invokestatic 146, 3) := by decide +kernel
theorem dL_acts_415 : decode cL_acts 415 = .ok (.aload 5, 2) := by decide +kernel
theorem dL_acts_417 : decode cL_acts 417 = .ok (.iconst 1, 1) := by decide +kernel
theorem dL_acts_418 : decode cL_acts 418 = .ok (.iaload, 1) := by decide +kernel
theorem dL_acts_419 : decode cL_acts 419 = .ok (.iconst 1, 1) := by decide +kernel
theorem dL_acts_420 : decode cL_acts 420 = .ok (.isub, 1) := by decide +kernel
theorem dL_acts_421 : decode cL_acts 421 = .ok (.if_icmp .ne 42, 3) := by decide +kernel
theorem dL_acts_424 : decode cL_acts 424 = .ok (.aload_n 0, 1) := by decide +kernel
theorem dL_acts_425 : decode cL_acts 425 = .ok (.iconst 0, 1) := by decide +kernel
theorem dL_acts_426 : decode cL_acts 426 = .ok (.iconst 0, 1) := by decide +kernel
theorem dL_acts_427 : decode cL_acts 427 = .ok (.iconst 0, 1) := by decide +kernel
theorem dL_acts_428 : decode cL_acts 428 = .ok (.bipush 45, 2) := by decide +kernel
theorem dL_acts_430 : decode cL_acts 430 = .ok (.iconst 0, 1) := by decide +kernel
theorem dL_acts_431 : decode cL_acts 431 = .ok (.iconst 0, 1) := by decide +kernel
theorem dL_acts_432 : decode cL_acts 432 = .ok (.iconst 0, 1) := by decide +kernel
theorem dL_acts_433 : decode cL_acts 433 = .ok (.invokestatic 146, 3) := by decide +kernel
theorem dL_acts_436 : decode cL_acts 436 = .ok (.ldc 18, 2) := by decide +kernel
theorem dL_acts_438 : decode cL_acts 438 = .ok (.if_icmp .ne 25, 3) := by decide +kernel
theorem dL_acts_441 : decode cL_acts 441 = .ok (.aload_n 0, 1) := by decide +kernel
theorem dL_acts_442 : decode cL_acts 442 = .ok (.iconst 0, 1) := by decide +kernel
theorem dL_acts_443 : decode cL_acts 443 = .ok (.bipush 8, 2) := by decide +kernel
theorem dL_acts_445 : decode cL_acts 445 = .ok (.iconst 0, 1) := by decide +kernel
theorem dL_acts_446 : decode cL_acts 446 = .ok (.bipush 15, 2) := by decide +kernel
theorem dL_acts_448 : decode cL_acts 448 = .ok (.iconst 0, 1) := by decide +kernel
theorem dL_acts_449 : decode cL_acts 449 = .ok (.iconst 0, 1) := by decide +kernel
theorem dL_acts_450 : decode cL_acts 450 = .ok (.iconst 0, 1) := by decide +kernel
theorem dL_acts_451 : decode cL_acts 451 = .ok (.invokestatic 146, 3) := by decide +kernel
theorem dL_acts_454 : decode cL_acts 454 = .ok (.ldc 18, 2) := by decide +kernel
theorem dL_acts_456 : decode cL_acts 456 = .ok (.if_icmp .ne 7, 3) := by decide +kernel
theorem dL_acts_459 : decode cL_acts 459 = .ok (.iconst 1, 1) := by decide +kernel
theorem dL_acts_460 : decode cL_acts 460 = .ok (.goto 4, 3) := by decide +kernel
theorem dL_acts_463 : decode cL_acts 463 = .ok (.iconst 0, 1) := by decide +kernel
theorem dL_acts_464 : decode cL_acts 464 = .ok (.ireturn, 1) := by decide +kernel
theorem dL_acts_465 : decode cL_acts 465 = .ok (.iload 7, 2) := by decide +kernel
theorem dL_acts_467 : decode cL_acts 467 = .ok (.aload 5, 2) := by decide +kernel
theorem dL_acts_469 : decode cL_acts 469 = .ok (.iconst 0, 1) := by decide +kernel
theorem dL_acts_470 : decode cL_acts 470 = .ok (.iaload, 1) := by decide +kernel
theorem dL_acts_471 : decode cL_acts 471 = .ok (.invokestatic 140, 3) := by decide +kernel
theorem dL_acts_474 : decode cL_acts 474 = .ok (.istore 9, 2) := by decide +kernel
theorem dL_acts_476 : decode cL_acts 476 = .ok (.iload 6, 2) := by decide +kernel
theorem dL_acts_478 : decode cL_acts 478 = .ok (.iconst 5, 1) := by decide +kernel
theorem dL_acts_479 : decode cL_acts 479 = .ok (.ishr, 1) := by decide +kernel
theorem dL_acts_480 : decode cL_acts 480 = .ok (.aload 5, 2) := by decide +kernel
theorem dL_acts_482 : decode cL_acts 482 = .ok (.iconst 1, 1) := by decide +kernel
theorem dL_acts_483 : decode cL_acts 483 = .ok (.iaload, 1) := by decide +kernel
theorem dL_acts_484 : decode cL_acts 484 = .ok (.invokestatic 140, 3) := by decide +kernel
theorem dL_acts_487 : decode cL_acts 487 = .ok (.istore 10, 2) := by decide +kernel
theorem dL_acts_489 : decode cL_acts 489 = .ok (.iload 7, 2) := by decide +kernel
theorem dL_acts_491 : decode cL_acts 491 = .ok (.iconst 5, 1) := by decide +kernel
theorem dL_acts_492 : decode cL_acts 492 = .ok (.ishr, 1) := by decide +kernel
theorem dL_acts_493 : decode cL_acts 493 = .ok (.aload 5, 2) := by decide +kernel
theorem dL_acts_495 : decode cL_acts 495 = .ok (.iconst 2, 1) := by decide +kernel
theorem dL_acts_496 : decode cL_acts 496 = .ok (.iaload, 1) := by decide +kernel
theorem dL_acts_497 : decode cL_acts 497 = .ok (.iconst 1, 1) := by decide +kernel
theorem dL_acts_498 : decode cL_acts 498 = .ok (.iadd, 1) := by decide +kernel
theorem dL_acts_499 : decode cL_acts 499 = .ok (.invokestatic 140, 3) := by decide +kernel
theorem dL_acts_502 : decode cL_acts 502 = .ok (.istore 11, 2) := by decide +kernel
theorem dL_acts_504 : decode cL_acts 504 = .ok (.iload 8, 2) := by decide +kernel
theorem dL_acts_506 : decode cL_acts 506 = .ok (.bipush 8, 2) := by decide +kernel
theorem dL_acts_508 : decode cL_acts 508 = .ok (.if_icmp .ge 144, 3) := by decide +kernel
theorem dL_acts_511 : decode cL_acts 511 = .ok (.iload 6, 2) := by decide +kernel
theorem dL_acts_513 : decode cL_acts 513 = .ok (.bipush 7, 2) := by decide +kernel
theorem dL_acts_515 : decode cL_acts 515 = .ok (.ishr, 1) := by decide +kernel
theorem dL_acts_516 : decode cL_acts 516 = .ok (.iconst 3, 1) := by decide +kernel
theorem dL_acts_517 : decode cL_acts 517 = .ok (.invokestatic 140, 3) := by decide +kernel
theorem dL_acts_520 : decode cL_acts 520 = .ok (.istore 12, 2) := by decide +kernel
theorem dL_acts_522 : decode cL_acts 522 = .ok (.iload 7, 2) := by decide +kernel
theorem dL_acts_524 : decode cL_acts 524 = .ok (.iconst 5, 1) := by decide +kernel
theorem dL_acts_525 : decode cL_acts 525 = .ok (.ishr, 1) := by decide +kernel
theorem dL_acts_526 : decode cL_acts 526 = .ok (.iload 6, 2) := by decide +kernel
theorem dL_acts_528 : decode cL_acts 528 = .ok (.bipush 9, 2) := by decide +kernel
theorem dL_acts_530 : decode cL_acts 530 = .ok (.ishr, 1) := by decide +kernel
theorem dL_acts_531 : decode cL_acts 531 = .ok (.bipush 6, 2) := by decide +kernel
theorem dL_acts_533 : decode cL_acts 533 = .ok (.invokestatic 140, 3) := by decide +kernel
theorem dL_acts_536 : decode cL_acts 536 = .ok (.ifCond .ne 8, 3) := by decide +kernel
theorem dL_acts_539 : decode cL_acts 539 = .ok (.ldc 149, 2) := by decide +kernel
theorem dL_acts_541 : decode cL_acts 541 = .ok (.goto 5, 3) := by decide +kernel
theorem dL_acts_544 : decode cL_acts 544 = .ok (.bipush 120, 2) := by decide +kernel
theorem dL_acts_546 : decode cL_acts 546 = .ok (.invokestatic 140, 3) := by decide +kernel
theorem dL_acts_549 : decode cL_acts 549 = .ok (.istore 13, 2) := by decide +kernel
theorem dL_acts_551 : decode cL_acts 551 = .ok (.aload_n 0, 1) := by decide +kernel
theorem dL_acts_552 : decode cL_acts 552 = .ok (.iload 9, 2) := by decide +kernel
theorem dL_acts_554 : decode cL_acts 554 = .ok (.iload 12, 2) := by decide +kernel
theorem dL_acts_556 : decode cL_acts 556 = .ok (.invokestatic 118, 3) := by decide +kernel
theorem dL_acts_559 : decode cL_acts 559 = .ok (.istore 14, 2) := by decide +kernel
theorem dL_acts_561 : decode cL_acts 561 = .ok (.aload_n 0, 1) := by decide +kernel
theorem dL_acts_562 : decode cL_acts 562 = .ok (.iload 9, 2) := by decide +kernel
theorem dL_acts_564 : decode cL_acts 564 = .ok (.iload 12, 2) := by decide +kernel
theorem dL_acts_566 : decode cL_acts 566 = .ok (.iload 13, 2) := by decide +kernel
theorem dL_acts_568 : decode cL_acts 568 = .ok (.invokestatic 150, 3) := by decide +kernel
theorem dL_acts_571 : decode cL_acts 571 = .ok (.iload 14, 2) := by decide +kernel
theorem dL_acts_573 : decode cL_acts 573 = .ok (.if_icmp .ne 77, 3) := by decide +kernel
theorem dL_acts_576 : decode cL_acts 576 = .ok (.aload_n 1, 1) := by decide +kernel
theorem dL_acts_577 : decode cL_acts 577 = .ok (.iload 9, 2) := by decide +kernel
theorem dL_acts_579 : decode cL_acts 579 = .ok (.iload 12, 2) := by decide +kernel
theorem dL_acts_581 : decode cL_acts 581 = .ok (.iload 13, 2) := by decide +kernel
theorem dL_acts_583 : decode cL_acts 583 = .ok (.invokestatic 150, 3) := by decide +kernel
theorem dL_acts_586 : decode cL_acts 586 = .ok (.iload 14, 2) := by decide +kernel
theorem dL_acts_588 : decode cL_acts 588 = .ok (.if_icmp .ne 62, 3) := by decide +kernel
theorem dL_acts_591 : decode cL_acts 591 = .ok (.aload_n 0, 1) := by decide +kernel
theorem dL_acts_592 : decode cL_acts 592 = .ok (.iload 9, 2) := by decide +kernel
theorem dL_acts_594 : decode cL_acts 594 = .ok (.iload 12, 2) := by decide +kernel
theorem dL_acts_596 : decode cL_acts 596 = .ok (.invokestatic 118, 3) := by decide +kernel
theorem dL_acts_599 : decode cL_acts 599 = .ok (.iload 13, 2) := by decide +kernel
theorem dL_acts_601 : decode cL_acts 601 = .ok (.if_icmp .ne 49, 3) := by decide +kernel
theorem dL_acts_604 : decode cL_acts 604 = .ok (.aload_n 0, 1) := by decide +kernel
theorem dL_acts_605 : decode cL_acts 605 = .ok (.iload 9, 2) := by decide +kernel
theorem dL_acts_607 : decode cL_acts 607 = .ok (.iconst 3, 1) := by decide +kernel
theorem dL_acts_608 : decode cL_acts 608 = .ok (.iconst 0, 1) := by decide +kernel
theorem dL_acts_609 : decode cL_acts 609 = .ok (.invokestatic 150, 3) := by decide +kernel
theorem dL_acts_612 : decode cL_acts 612 = .ok (.ldc 18, 2) := by decide +kernel
theorem dL_acts_614 : decode cL_acts 614 = .ok (.if_icmp .ne 36, 3) := by decide +kernel
theorem dL_acts_617 : decode cL_acts 617 = .ok (.aload_n 0, 1) := by decide +kernel
theorem dL_acts_618 : decode cL_acts 618 = .ok (.iload 9, 2) := by decide +kernel
theorem dL_acts_620 : decode cL_acts 620 = .ok (.iconst 0, 1) := by decide +kernel
theorem dL_acts_621 : decode cL_acts 621 = .ok (.ldc 149, 2) := by decide +kernel
theorem dL_acts_623 : decode cL_acts 623 = .ok (.invokestatic 150, 3) := by decide +kernel
theorem dL_acts_626 : decode cL_acts 626 = .ok (.ldc 18, 2) := by decide +kernel
theorem dL_acts_628 : decode cL_acts 628 = .ok (.if_icmp .ne 22, 3) := by decide +kernel
theorem dL_acts_631 : decode cL_acts 631 = .ok (.aload_n 0, 1) := by decide +kernel
theorem dL_acts_632 : decode cL_acts 632 = .ok (.aload 5, 2) := by decide +kernel
theorem dL_acts_634 : decode cL_acts 634 = .ok (.iconst 0, 1) := by decide +kernel
theorem dL_acts_635 : decode cL_acts 635 = .ok (.iaload, 1) := by decide +kernel
theorem dL_acts_636 : decode cL_acts 636 = .ok (.iconst 3, 1) := by decide +kernel
theorem dL_acts_637 : decode cL_acts 637 = .ok (.iconst 0, 1) := by decide +kernel
theorem dL_acts_638 : decode cL_acts 638 = .ok (.invokestatic 150, 3) := by decide +kernel
theorem dL_acts_641 : decode cL_acts 641 = .ok (.ldc 28, 2) := by decide +kernel
theorem dL_acts_643 : decode cL_acts 643 = .ok (.if_icmp .ne 7, 3) := by decide +kernel
theorem dL_acts_646 : decode cL_acts 646 = .ok (.iconst 1, 1) := by decide +kernel
theorem dL_acts_647 : decode cL_acts 647 = .ok (.goto 4, 3) := by decide +kernel
theorem dL_acts_650 : decode cL_acts 650 = .ok (.iconst 0, 1) := by decide +kernel
theorem dL_acts_651 : decode cL_acts 651 = .ok (.ireturn, 1) := by decide +kernel
theorem dL_acts_652 : decode cL_acts 652 = .ok (.iload 8, 2) := by decide +kernel
theorem dL_acts_654 : decode cL_acts 654 = .ok (.bipush 14, 2) := by decide +kernel
theorem dL_acts_656 : decode cL_acts 656 = .ok (.if_icmp .ge 275, 3) := by decide +kernel
theorem dL_acts_659 : decode cL_acts 659 = .ok (.aload 5, 2) := by decide +kernel
theorem dL_acts_661 : decode cL_acts 661 = .ok (.iconst 2, 1) := by decide +kernel
theorem dL_acts_662 : decode cL_acts 662 = .ok (.iaload, 1) := by decide +kernel
theorem dL_acts_663 : decode cL_acts 663 = .ok (.bipush 60, 2) := by decide +kernel
theorem dL_acts_665 : decode cL_acts 665 = .ok (.if_icmp .ge 266, 3) := by decide +kernel
theorem dL_acts_668 : decode cL_acts 668 = .ok (.aload_n 2, 1) := by decide +kernel
theorem dL_acts_669 : decode cL_acts 669 = .ok (.bipush 7, 2) := by decide +kernel
theorem dL_acts_671 : decode cL_acts 671 = .ok (.iload 10, 2) := by decide +kernel
theorem dL_acts_673 : decode cL_acts 673 = .ok (.imul, 1) := by decide +kernel
theorem dL_acts_674 : decode cL_acts 674 = .ok (.bipush 6, 2) := by decide +kernel
theorem dL_acts_676 : decode cL_acts 676 = .ok (.iadd, 1) := by decide +kernel
theorem dL_acts_677 : decode cL_acts 677 = .ok (.iaload, 1) := by decide +kernel
theorem dL_acts_678 : decode cL_acts 678 = .ok (.iconst 1, 1) := by decide +kernel
theorem dL_acts_679 : decode cL_acts 679 = .ok (.if_icmp .ne 7, 3) := by decide +kernel
theorem dL_acts_682 : decode cL_acts 682 = .ok (.iconst 1, 1) := by decide +kernel
theorem dL_acts_683 : decode cL_acts 683 = .ok (.goto 4, 3) := by decide +kernel
theorem dL_acts_686 : decode cL_acts 686 = .ok (.iconst 0, 1) := by decide +kernel
theorem dL_acts_687 : decode cL_acts 687 = .ok (.istore 12, 2) := by decide +kernel
theorem dL_acts_689 : decode cL_acts 689 = .ok (.aload_n 0, 1) := by decide +kernel
theorem dL_acts_690 : decode cL_acts 690 = .ok (.iload 10, 2) := by decide +kernel
theorem dL_acts_692 : decode cL_acts 692 = .ok (.iload 9, 2) := by decide +kernel
theorem dL_acts_694 : decode cL_acts 694 = .ok (.invokestatic 136, 3) := by decide +kernel
theorem dL_acts_697 : decode cL_acts 697 = .ok (.ifCond .ne 21, 3) := by decide +kernel
theorem dL_acts_700 : decode cL_acts 700 = .ok (.iload 12, 2) := by decide +kernel
theorem dL_acts_702 : decode cL_acts 702 = .ok (.ifCond .eq 12, 3) := by decide +kernel
theorem dL_acts_705 : decode cL_acts 705 = .ok (.aload_n 0, 1) := by decide +kernel
theorem dL_acts_706 : decode cL_acts 706 = .ok (.iload 10, 2) := by decide +kernel
theorem dL_acts_708 : decode cL_acts 708 = .ok (.invokestatic 125, 3) := by decide +kernel
theorem dL_acts_711 : decode cL_acts 711 = .ok (.ifCond .le 7, 3) := by decide +kernel
theorem dL_acts_714 : decode cL_acts 714 = .ok (.iconst 1, 1) := by decide +kernel
theorem dL_acts_715 : decode cL_acts 715 = .ok (.goto 4, 3) := by decide +kernel
theorem dL_acts_718 : decode cL_acts 718 = .ok (.iconst 0, 1) := by decide +kernel
theorem dL_acts_719 : decode cL_acts 719 = .ok (.istore 13, 2) := by decide +kernel
theorem dL_acts_721 : decode cL_acts 721 = .ok (.iload 13, 2) := by decide +kernel
theorem dL_acts_723 : decode cL_acts 723 = .ok (.ifCond .eq 10, 3) := by decide +kernel
theorem dL_acts_726 : decode cL_acts 726 = .ok (.aload 5, 2) := by decide +kernel
theorem dL_acts_728 : decode cL_acts 728 = .ok (.iconst 2, 1) := by decide +kernel
theorem dL_acts_729 : decode cL_acts 729 = .ok (.iaload, 1) := by decide +kernel
theorem dL_acts_730 : decode cL_acts 730 = .ok (.goto 5, 3) := by decide +kernel
theorem dL_acts_733 : decode cL_acts 733 = .ok (.ldc 21, 2) := by decide +kernel
theorem dL_acts_735 : decode cL_acts 735 = .ok (.istore 14, 2) := by decide +kernel
theorem dL_acts_737 : decode cL_acts 737 = .ok (.iload 12, 2) := by decide +kernel
theorem dL_acts_739 : decode cL_acts 739 = .ok (.ifCond .eq 14, 3) := by decide +kernel
theorem dL_acts_742 : decode cL_acts 742 = .ok (.aload_n 0, 1) := by decide +kernel
theorem dL_acts_743 : decode cL_acts 743 = .ok (.iload 10, 2) := by decide +kernel
theorem dL_acts_745 : decode cL_acts 745 = .ok (.iload 9, 2) := by decide +kernel
theorem dL_acts_747 : decode cL_acts 747 = .ok (.invokestatic 153, 3) := by decide +kernel
theorem dL_acts_750 : decode cL_acts 750 = .ok (.goto 11, 3) := by decide +kernel
theorem dL_acts_753 : decode cL_acts 753 = .ok (.aload_n 0, 1) := by decide +kernel
theorem dL_acts_754 : decode cL_acts 754 = .ok (.iload 10, 2) := by decide +kernel
theorem dL_acts_756 : decode cL_acts 756 = .ok (.iload 9, 2) := by decide +kernel
theorem dL_acts_758 : decode cL_acts 758 = .ok (.invokestatic 138, 3) := by decide +kernel
theorem dL_acts_761 : decode cL_acts 761 = .ok (.istore 15, 2) := by decide +kernel
theorem dL_acts_763 : decode cL_acts 763 = .ok (.iload 12, 2) := by decide +kernel
theorem dL_acts_765 : decode cL_acts 765 = .ok (.ifCond .eq 14, 3) := by decide +kernel
theorem dL_acts_768 : decode cL_acts 768 = .ok (.aload_n 1, 1) := by decide +kernel
theorem dL_acts_769 : decode cL_acts 769 = .ok (.iload 10, 2) := by decide +kernel
theorem dL_acts_771 : decode cL_acts 771 = .ok (.iload 9, 2) := by decide +kernel
theorem dL_acts_773 : decode cL_acts 773 = .ok (.invokestatic 153, 3) := by decide +kernel
theorem dL_acts_776 : decode cL_acts 776 = .ok (.goto 11, 3) := by decide +kernel
theorem dL_acts_779 : decode cL_acts 779 = .ok (.aload_n 1, 1) := by decide +kernel
theorem dL_acts_780 : decode cL_acts 780 = .ok (.iload 10, 2) := by decide +kernel
theorem dL_acts_782 : decode cL_acts 782 = .ok (.iload 9, 2) := by decide +kernel
theorem dL_acts_784 : decode cL_acts 784 = .ok (.invokestatic 138, 3) := by decide +kernel
theorem dL_acts_787 : decode cL_acts 787 = .ok (.iload 14, 2) := by decide +kernel
theorem dL_acts_789 : decode cL_acts 789 = .ok (.if_icmp .ne 43, 3) := by decide +kernel
theorem dL_acts_792 : decode cL_acts 792 = .ok (.iload 15, 2) := by decide +kernel
theorem dL_acts_794 : decode cL_acts 794 = .ok (.iload 14, 2) := by decide +kernel
theorem dL_acts_796 : decode cL_acts 796 = .ok (.if_icmp .ne 36, 3) := by decide +kernel
theorem dL_acts_799 : decode cL_acts 799 = .ok (.iload 12, 2) := by decide +kernel
theorem dL_acts_801 : decode cL_acts 801 = .ok (.ifCond .eq 14, 3) := by decide +kernel
theorem dL_acts_804 : decode cL_acts 804 = .ok (.aload_n 0, 1) := by decide +kernel
theorem dL_acts_805 : decode cL_acts 805 = .ok (.iload 10, 2) := by decide +kernel
theorem dL_acts_807 : decode cL_acts 807 = .ok (.iload 9, 2) := by decide +kernel
theorem dL_acts_809 : decode cL_acts 809 = .ok (.invokestatic 138, 3) := by decide +kernel
theorem dL_acts_812 : decode cL_acts 812 = .ok (.goto 11, 3) := by decide +kernel
theorem dL_acts_815 : decode cL_acts 815 = .ok (.aload_n 0, 1) := by decide +kernel
theorem dL_acts_816 : decode cL_acts 816 = .ok (.iload 10, 2) := by decide +kernel
theorem dL_acts_818 : decode cL_acts 818 = .ok (.iload 9, 2) := by decide +kernel
theorem dL_acts_820 : decode cL_acts 820 = .ok (.invokestatic 153, 3) := by decide +kernel
theorem dL_acts_823 : decode cL_acts 823 = .ok (.ldc 21, 2) := by decide +kernel
theorem dL_acts_825 : decode cL_acts 825 = .ok (.if_icmp .ne 7, 3) := by decide +kernel
theorem dL_acts_828 : decode cL_acts 828 = .ok (.iconst 1, 1) := by decide +kernel
theorem dL_acts_829 : decode cL_acts 829 = .ok (.goto 4, 3) := by decide +kernel
theorem dL_acts_832 : decode cL_acts 832 = .ok (.iconst 0, 1) := by decide +kernel
theorem dL_acts_833 : decode cL_acts 833 = .ok (.istore 16, 2) := by decide +kernel
theorem dL_acts_835 : decode cL_acts 835 = .ok (.iload 13, 2) := by decide +kernel
theorem dL_acts_837 : decode cL_acts 837 = .ok (.ifCond .eq 32, 3) := by decide +kernel
theorem dL_acts_840 : decode cL_acts 840 = .ok (.aload 4, 2) := by decide +kernel
theorem dL_acts_842 : decode cL_acts 842 = .ok (.aload 5, 2) := by decide +kernel
theorem dL_acts_844 : decode cL_acts 844 = .ok (.iconst 2, 1) := by decide +kernel
theorem dL_acts_845 : decode cL_acts 845 = .ok (.iaload, 1) := by decide +kernel
theorem dL_acts_846 : decode cL_acts 846 = .ok (.iload 10, 2) := by decide +kernel
theorem dL_acts_848 : decode cL_acts 848 = .ok (.iload 12, 2) := by decide +kernel
theorem dL_acts_850 : decode cL_acts 850 = .ok (.ifCond .eq 8, 3) := by decide +kernel
theorem dL_acts_853 : decode cL_acts 853 = .ok (.bipush 32, 2) := by decide +kernel
theorem dL_acts_855 : decode cL_acts 855 = .ok (.goto 4, 3) := by decide +kernel
theorem dL_acts_858 : decode cL_acts 858 = .ok (.iconst 0, 1) := by decide +kernel
theorem dL_acts_859 : decode cL_acts 859 = .ok (.iadd, 1) := by decide +kernel
theorem dL_acts_860 : decode cL_acts 860 = .ok (.iastore, 1) := by decide +kernel
theorem dL_acts_861 : decode cL_acts 861 = .ok (.aload 5, 2) := by decide +kernel
theorem dL_acts_863 : decode cL_acts 863 = .ok (.iconst 2, 1) := by decide +kernel
theorem dL_acts_864 : decode cL_acts 864 = .ok (.dup2, 1) := by decide +kernel
theorem dL_acts_865 : decode cL_acts 865 = .ok (.iaload, 1) := by decide +kernel
theorem dL_acts_866 : decode cL_acts 866 = .ok (.iconst 1, 1) := by decide +kernel
theorem dL_acts_867 : decode cL_acts 867 = .ok (.iadd, 1) := by decide +kernel
theorem dL_acts_868 : decode cL_acts 868 = .ok (.iastore, 1) := by decide +kernel
theorem dL_acts_869 : decode cL_acts 869 = .ok (.iload 16, 2) := by decide +kernel
theorem dL_acts_871 : decode cL_acts 871 = .ok (.ifCond .eq 58, 3) := by decide +kernel
theorem dL_acts_874 : decode cL_acts 874 = .ok (.aload_n 0, 1) := by decide +kernel
theorem dL_acts_875 : decode cL_acts 875 = .ok (.aload 5, 2) := by decide +kernel
theorem dL_acts_877 : decode cL_acts 877 = .ok (.iconst 1, 1) := by decide +kernel
theorem dL_acts_878 : decode cL_acts 878 = .ok (.iaload, 1) := by decide +kernel
theorem dL_acts_879 : decode cL_acts 879 = .ok (.iload 9, 2) := by decide +kernel
theorem dL_acts_881 : decode cL_acts 881 = .ok (.invokestatic 136, 3) := by decide +kernel
theorem dL_acts_884 : decode cL_acts 884 = .ok (.ldc 28, 2) := by decide +kernel
theorem dL_acts_886 : decode cL_acts 886 = .ok (.if_icmp .ne 43, 3) := by decide +kernel
theorem dL_acts_889 : decode cL_acts 889 = .ok (.iload 13, 2) := by decide +kernel
theorem dL_acts_891 : decode cL_acts 891 = .ok (.ifCond .eq 34, 3) := by decide +kernel
theorem dL_acts_894 : decode cL_acts 894 = .ok (.aload_n 0, 1) := by decide +kernel
theorem dL_acts_895 : decode cL_acts 895 = .ok (.iload 14, 2) := by decide +kernel
theorem dL_acts_897 : decode cL_acts 897 = .ok (.invokestatic 93, 3) := by decide +kernel
theorem dL_acts_900 : decode cL_acts 900 = .ok (.ifCond .ne 29, 3) := by decide +kernel
theorem dL_acts_903 : decode cL_acts 903 = .ok (.aload_n 0, 1) := by decide +kernel
theorem dL_acts_904 : decode cL_acts 904 = .ok (.iload 14, 2) := by decide +kernel
theorem dL_acts_906 : decode cL_acts 906 = .ok (.invokestatic 102, 3) := by decide +kernel
theorem dL_acts_909 : decode cL_acts 909 = .ok (.iload 9, 2) := by decide +kernel
theorem dL_acts_911 : decode cL_acts 911 = .ok (.if_icmp .ne 18, 3) := by decide +kernel
theorem dL_acts_914 : decode cL_acts 914 = .ok (.aload_n 0, 1) := by decide +kernel
theorem dL_acts_915 : decode cL_acts 915 = .ok (.iload 10, 2) := by decide +kernel
theorem dL_acts_917 : decode cL_acts 917 = .ok (.iload 9, 2) := by decide +kernel
theorem dL_acts_919 : decode cL_acts 919 = .ok (.invokestatic 136, 3) := by decide +kernel
theorem dL_acts_922 : decode cL_acts 922 = .ok (.ifCond .le 7, 3) := by decide +kernel
theorem dL_acts_925 : decode cL_acts 925 = .ok (.iconst 1, 1) := by decide +kernel
theorem dL_acts_926 : decode cL_acts 926 = .ok (.goto 4, 3) := by decide +kernel
theorem dL_acts_929 : decode cL_acts 929 = .ok (.iconst 0, 1) := by decide +kernel
theorem dL_acts_930 : decode cL_acts 930 = .ok (.ireturn, 1) := by decide +kernel
theorem dL_acts_931 : decode cL_acts 931 = .ok (.iload 8, 2) := by decide +kernel
theorem dL_acts_933 : decode cL_acts 933 = .ok (.bipush 17, 2) := by decide +kernel
theorem dL_acts_935 : decode cL_acts 935 = .ok (.if_icmp .ge 34, 3) := by decide +kernel
theorem dL_acts_938 : decode cL_acts 938 = .ok (.aload 5, 2) := by decide +kernel
theorem dL_acts_940 : decode cL_acts 940 = .ok (.iconst 2, 1) := by decide +kernel
theorem dL_acts_941 : decode cL_acts 941 = .ok (.iaload, 1) := by decide +kernel
theorem dL_acts_942 : decode cL_acts 942 = .ok (.bipush 40, 2) := by decide +kernel
theorem dL_acts_944 : decode cL_acts 944 = .ok (.if_icmp .ge 25, 3) := by decide +kernel
theorem dL_acts_947 : decode cL_acts 947 = .ok (.aload_n 0, 1) := by decide +kernel
theorem dL_acts_948 : decode cL_acts 948 = .ok (.aload_n 1, 1) := by decide +kernel
theorem dL_acts_949 : decode cL_acts 949 = .ok (.aload_n 2, 1) := by decide +kernel
theorem dL_acts_950 : decode cL_acts 950 = .ok (.aload 4, 2) := by decide +kernel
theorem dL_acts_952 : decode cL_acts 952 = .ok (.aload 5, 2) := by decide +kernel
theorem dL_acts_954 : decode cL_acts 954 = .ok (.iload 10, 2) := by decide +kernel
theorem dL_acts_956 : decode cL_acts 956 = .ok (.iconst 1, 1) := by decide +kernel
theorem dL_acts_957 : decode cL_acts 957 = .ok (.iload 7, 2) := by decide +kernel
theorem dL_acts_959 : decode cL_acts 959 = .ok (.bipush 20, 2) := by decide +kernel
theorem dL_acts_961 : decode cL_acts 961 = .ok (.invokestatic 140, 3) := by decide +kernel
theorem dL_acts_964 : decode cL_acts 964 = .ok (.iadd, 1) := by decide +kernel
theorem dL_acts_965 : decode cL_acts 965 = .ok (.invokestatic 155, 3) := by decide +kernel
theorem dL_acts_968 : decode cL_acts 968 = .ok (.ireturn, 1) := by decide +kernel
theorem dL_acts_969 : decode cL_acts 969 = .ok (.iload 8, 2) := by decide +kernel
theorem dL_acts_971 : decode cL_acts 971 = .ok (.bipush 20, 2) := by decide +kernel
theorem dL_acts_973 : decode cL_acts 973 = .ok (.if_icmp .ge 149, 3) := by decide +kernel
theorem dL_acts_976 : decode cL_acts 976 = .ok (.iload 11, 2) := by decide +kernel
theorem dL_acts_978 : decode cL_acts 978 = .ok (.aload 5, 2) := by decide +kernel
theorem dL_acts_980 : decode cL_acts 980 = .ok (.iconst 2, 1) := by decide +kernel
theorem dL_acts_981 : decode cL_acts 981 = .ok (.iaload, 1) := by decide +kernel
theorem dL_acts_982 : decode cL_acts 982 = .ok (.if_icmp .ge 12, 3) := by decide +kernel
theorem dL_acts_985 : decode cL_acts 985 = .ok (.aload_n 0, 1) := by decide +kernel
theorem dL_acts_986 : decode cL_acts 986 = .ok (.iload 11, 2) := by decide +kernel
theorem dL_acts_988 : decode cL_acts 988 = .ok (.invokestatic 102, 3) := by decide +kernel
theorem dL_acts_991 : decode cL_acts 991 = .ok (.goto 4, 3) := by decide +kernel
theorem dL_acts_994 : decode cL_acts 994 = .ok (.iconst (-1), 1) := by decide +kernel
theorem dL_acts_995 : decode cL_acts 995 = .ok (.istore 12, 2) := by decide +kernel
theorem dL_acts_997 : decode cL_acts 997 = .ok (.aload_n 0, 1) := by decide +kernel
theorem dL_acts_998 : decode cL_acts 998 = .ok (.iload 11, 2) := by decide +kernel
theorem dL_acts_1000 : decode cL_acts 1000 = .ok (.iload 9, 2) := by decide +kernel
theorem dL_acts_1002 : decode cL_acts 1002 = .ok (.invokestatic 159, 3) := by decide +kernel
theorem dL_acts_1005 : decode cL_acts 1005 = .ok (.istore 13, 2) := by decide +kernel
theorem dL_acts_1007 : decode cL_acts 1007 = .ok (.aload_n 1, 1) := by decide +kernel
theorem dL_acts_1008 : decode cL_acts 1008 = .ok (.iload 11, 2) := by decide +kernel
theorem dL_acts_1010 : decode cL_acts 1010 = .ok (.iload 9, 2) := by decide +kernel
theorem dL_acts_1012 : decode cL_acts 1012 = .ok (.invokestatic 159, 3) := by decide +kernel
theorem dL_acts_1015 : decode cL_acts 1015 = .ok (.iload 13, 2) := by decide +kernel
theorem dL_acts_1017 : decode cL_acts 1017 = .ok (.if_icmp .ne 7, 3) := by decide +kernel
theorem dL_acts_1020 : decode cL_acts 1020 = .ok (.iconst 1, 1) := by decide +kernel
theorem dL_acts_1021 : decode cL_acts 1021 = .ok (.goto 4, 3) := by decide +kernel
theorem dL_acts_1024 : decode cL_acts 1024 = .ok (.iconst 0, 1) := by decide +kernel
theorem dL_acts_1025 : decode cL_acts 1025 = .ok (.istore 14, 2) := by decide +kernel
theorem dL_acts_1027 : decode cL_acts 1027 = .ok (.iload 14, 2) := by decide +kernel
theorem dL_acts_1029 : decode cL_acts 1029 = .ok (.ifCond .eq 91, 3) := by decide +kernel
theorem dL_acts_1032 : decode cL_acts 1032 = .ok (.iload 11, 2) := by decide +kernel
theorem dL_acts_1034 : decode cL_acts 1034 = .ok (.aload 5, 2) := by decide +kernel
theorem dL_acts_1036 : decode cL_acts 1036 = .ok (.iconst 2, 1) := by decide +kernel
theorem dL_acts_1037 : decode cL_acts 1037 = .ok (.iaload, 1) := by decide +kernel
theorem dL_acts_1038 : decode cL_acts 1038 = .ok (.if_icmp .ne 13, 3) := by decide +kernel
theorem dL_acts_1041 : decode cL_acts 1041 = .ok (.iload 13, 2) := by decide +kernel
theorem dL_acts_1043 : decode cL_acts 1043 = .ok (.ldc 28, 2) := by decide +kernel
theorem dL_acts_1045 : decode cL_acts 1045 = .ok (.if_icmp .ne 75, 3) := by decide +kernel
theorem dL_acts_1048 : decode cL_acts 1048 = .ok (.goto 68, 3) := by decide +kernel
theorem dL_acts_1051 : decode cL_acts 1051 = .ok (.aload_n 0, 1) := by decide +kernel
theorem dL_acts_1052 : decode cL_acts 1052 = .ok (.iload 11, 2) := by decide +kernel
theorem dL_acts_1054 : decode cL_acts 1054 = .ok (.invokestatic 93, 3) := by decide +kernel
theorem dL_acts_1057 : decode cL_acts 1057 = .ok (.ifCond .le 13, 3) := by decide +kernel
theorem dL_acts_1060 : decode cL_acts 1060 = .ok (.iload 13, 2) := by decide +kernel
theorem dL_acts_1062 : decode cL_acts 1062 = .ok (.ldc 21, 2) := by decide +kernel
theorem dL_acts_1064 : decode cL_acts 1064 = .ok (.if_icmp .ne 56, 3) := by decide +kernel
theorem dL_acts_1067 : decode cL_acts 1067 = .ok (.goto 49, 3) := by decide +kernel
theorem dL_acts_1070 : decode cL_acts 1070 = .ok (.iload 13, 2) := by decide +kernel
theorem dL_acts_1072 : decode cL_acts 1072 = .ok (.ldc 21, 2) := by decide +kernel
theorem dL_acts_1074 : decode cL_acts 1074 = .ok (.if_icmp .ne 24, 3) := by decide +kernel
theorem dL_acts_1077 : decode cL_acts 1077 = .ok (.aload_n 0, 1) := by decide +kernel
theorem dL_acts_1078 : decode cL_acts 1078 = .ok (.iload 11, 2) := by decide +kernel
theorem dL_acts_1080 : decode cL_acts 1080 = .ok (.invokestatic 102, 3) := by decide +kernel
theorem dL_acts_1083 : decode cL_acts 1083 = .ok (.iload 12, 2) := by decide +kernel
theorem dL_acts_1085 : decode cL_acts 1085 = .ok (.if_icmp .ne 35, 3) := by decide +kernel
theorem dL_acts_1088 : decode cL_acts 1088 = .ok (.iload 12, 2) := by decide +kernel
theorem dL_acts_1090 : decode cL_acts 1090 = .ok (.iload 9, 2) := by decide +kernel
theorem dL_acts_1092 : decode cL_acts 1092 = .ok (.if_icmp .eq 28, 3) := by decide +kernel
theorem dL_acts_1095 : decode cL_acts 1095 = .ok (.goto 21, 3) := by decide +kernel
theorem dL_acts_1098 : decode cL_acts 1098 = .ok (.iload 13, 2) := by decide +kernel
theorem dL_acts_1100 : decode cL_acts 1100 = .ok (.iload 12, 2) := by decide +kernel
theorem dL_acts_1102 : decode cL_acts 1102 = .ok (.if_icmp .ne 18, 3) := by decide +kernel
theorem dL_acts_1105 : decode cL_acts 1105 = .ok (.aload_n 0, 1) := by decide +kernel
theorem dL_acts_1106 : decode cL_acts 1106 = .ok (.iload 11, 2) := by decide +kernel
theorem dL_acts_1108 : decode cL_acts 1108 = .ok (.invokestatic 102, 3) := by decide +kernel
theorem dL_acts_1111 : decode cL_acts 1111 = .ok (.iload 9, 2) := by decide +kernel
theorem dL_acts_1113 : decode cL_acts 1113 = .ok (.if_icmp .ne 7, 3) := by decide +kernel
theorem dL_acts_1116 : decode cL_acts 1116 = .ok (.iconst 1, 1) := by decide +kernel
theorem dL_acts_1117 : decode cL_acts 1117 = .ok (.goto 4, 3) := by decide +kernel
theorem dL_acts_1120 : decode cL_acts 1120 = .ok (.iconst 0, 1) := by decide +kernel
theorem dL_acts_1121 : decode cL_acts 1121 = .ok (.ireturn, 1) := by decide +kernel
theorem dL_acts_1122 : decode cL_acts 1122 = .ok (.iload 8, 2) := by decide +kernel
theorem dL_acts_1124 : decode cL_acts 1124 = .ok (.bipush 22, 2) := by decide +kernel
theorem dL_acts_1126 : decode cL_acts 1126 = .ok (.if_icmp .ge 103, 3) := by decide +kernel
theorem dL_acts_1129 : decode cL_acts 1129 = .ok (.iload 11, 2) := by decide +kernel
theorem dL_acts_1131 : decode cL_acts 1131 = .ok (.aload 5, 2) := by decide +kernel
theorem dL_acts_1133 : decode cL_acts 1133 = .ok (.iconst 2, 1) := by decide +kernel
theorem dL_acts_1134 : decode cL_acts 1134 = .ok (.iaload, 1) := by decide +kernel
theorem dL_acts_1135 : decode cL_acts 1135 = .ok (.if_icmp .ge 12, 3) := by decide +kernel
theorem dL_acts_1138 : decode cL_acts 1138 = .ok (.aload_n 0, 1) := by decide +kernel
theorem dL_acts_1139 : decode cL_acts 1139 = .ok (.iload 11, 2) := by decide +kernel
theorem dL_acts_1141 : decode cL_acts 1141 = .ok (.invokestatic 93, 3) := by decide +kernel
theorem dL_acts_1144 : decode cL_acts 1144 = .ok (.goto 4, 3) := by decide +kernel
theorem dL_acts_1147 : decode cL_acts 1147 = .ok (.iconst (-1), 1) := by decide +kernel
theorem dL_acts_1148 : decode cL_acts 1148 = .ok (.istore 12, 2) := by decide +kernel
theorem dL_acts_1150 : decode cL_acts 1150 = .ok (.iload 12, 2) := by decide +kernel
theorem dL_acts_1152 : decode cL_acts 1152 = .ok (.ifCond .ge 8, 3) := by decide +kernel
theorem dL_acts_1155 : decode cL_acts 1155 = .ok (.ldc 28, 2) := by decide +kernel
theorem dL_acts_1157 : decode cL_acts 1157 = .ok (.goto 16, 3) := by decide +kernel
theorem dL_acts_1160 : decode cL_acts 1160 = .ok (.iload 12, 2) := by decide +kernel
theorem dL_acts_1162 : decode cL_acts 1162 = .ok (.iconst 1, 1) := by decide +kernel
theorem dL_acts_1163 : decode cL_acts 1163 = .ok (.if_icmp .le 8, 3) := by decide +kernel
theorem dL_acts_1166 : decode cL_acts 1166 = .ok (.ldc 21, 2) := by decide +kernel
theorem dL_acts_1168 : decode cL_acts 1168 = .ok (.goto 5, 3) := by decide +kernel
theorem dL_acts_1171 : decode cL_acts 1171 = .ok (.iload 12, 2) := by decide +kernel
theorem dL_acts_1173 : decode cL_acts 1173 = .ok (.istore 13, 2) := by decide +kernel
theorem dL_acts_1175 : decode cL_acts 1175 = .ok (.aload_n 0, 1) := by decide +kernel
theorem dL_acts_1176 : decode cL_acts 1176 = .ok (.iload 11, 2) := by decide +kernel
theorem dL_acts_1178 : decode cL_acts 1178 = .ok (.invokestatic 161, 3) := by decide +kernel
theorem dL_acts_1181 : decode cL_acts 1181 = .ok (.iload 13, 2) := by decide +kernel
theorem dL_acts_1183 : decode cL_acts 1183 = .ok (.if_icmp .ne 44, 3) := by decide +kernel
theorem dL_acts_1186 : decode cL_acts 1186 = .ok (.aload_n 1, 1) := by decide +kernel
theorem dL_acts_1187 : decode cL_acts 1187 = .ok (.iload 11, 2) := by decide +kernel
theorem dL_acts_1189 : decode cL_acts 1189 = .ok (.invokestatic 161, 3) := by decide +kernel
theorem dL_acts_1192 : decode cL_acts 1192 = .ok (.iload 13, 2) := by decide +kernel
theorem dL_acts_1194 : decode cL_acts 1194 = .ok (.if_icmp .ne 33, 3) := by decide +kernel
theorem dL_acts_1197 : decode cL_acts 1197 = .ok (.iload 13, 2) := by decide +kernel
theorem dL_acts_1199 : decode cL_acts 1199 = .ok (.ifCond .lt 24, 3) := by decide +kernel
theorem dL_acts_1202 : decode cL_acts 1202 = .ok (.aload_n 0, 1) := by decide +kernel
theorem dL_acts_1203 : decode cL_acts 1203 = .ok (.iload 11, 2) := by decide +kernel
theorem dL_acts_1205 : decode cL_acts 1205 = .ok (.invokestatic 93, 3) := by decide +kernel
theorem dL_acts_1208 : decode cL_acts 1208 = .ok (.iconst 2, 1) := by decide +kernel
theorem dL_acts_1209 : decode cL_acts 1209 = .ok (.if_icmp .ne 18, 3) := by decide +kernel
theorem dL_acts_1212 : decode cL_acts 1212 = .ok (.aload_n 0, 1) := by decide +kernel
theorem dL_acts_1213 : decode cL_acts 1213 = .ok (.iload 11, 2) := by decide +kernel
theorem dL_acts_1215 : decode cL_acts 1215 = .ok (.invokestatic 161, 3) := by decide +kernel
theorem dL_acts_1218 : decode cL_acts 1218 = .ok (.ldc 21, 2) := by decide +kernel
theorem dL_acts_1220 : decode cL_acts 1220 = .ok (.if_icmp .ne 7, 3) := by decide +kernel
theorem dL_acts_1223 : decode cL_acts 1223 = .ok (.iconst 1, 1) := by decide +kernel
theorem dL_acts_1224 : decode cL_acts 1224 = .ok (.goto 4, 3) := by decide +kernel
theorem dL_acts_1227 : decode cL_acts 1227 = .ok (.iconst 0, 1) := by decide +kernel
theorem dL_acts_1228 : decode cL_acts 1228 = .ok (.ireturn, 1) := by decide +kernel
theorem dL_acts_1229 : decode cL_acts 1229 = .ok (.iload 8, 2) := by decide +kernel
theorem dL_acts_1231 : decode cL_acts 1231 = .ok (.bipush 22, 2) := by decide +kernel
theorem dL_acts_1233 : decode cL_acts 1233 = .ok (.if_icmp .ne 90, 3) := by decide +kernel
theorem dL_acts_1236 : decode cL_acts 1236 = .ok (.iload 11, 2) := by decide +kernel
theorem dL_acts_1238 : decode cL_acts 1238 = .ok (.aload 5, 2) := by decide +kernel
theorem dL_acts_1240 : decode cL_acts 1240 = .ok (.iconst 2, 1) := by decide +kernel
theorem dL_acts_1241 : decode cL_acts 1241 = .ok (.iaload, 1) := by decide +kernel
theorem dL_acts_1242 : decode cL_acts 1242 = .ok (.if_icmp .ge 12, 3) := by decide +kernel
theorem dL_acts_1245 : decode cL_acts 1245 = .ok (.aload_n 0, 1) := by decide +kernel
theorem dL_acts_1246 : decode cL_acts 1246 = .ok (.iload 11, 2) := by decide +kernel
theorem dL_acts_1248 : decode cL_acts 1248 = .ok (.invokestatic 93, 3) := by decide +kernel
theorem dL_acts_1251 : decode cL_acts 1251 = .ok (.goto 4, 3) := by decide +kernel
theorem dL_acts_1254 : decode cL_acts 1254 = .ok (.iconst (-1), 1) := by decide +kernel
theorem dL_acts_1255 : decode cL_acts 1255 = .ok (.istore 12, 2) := by decide +kernel
theorem dL_acts_1257 : decode cL_acts 1257 = .ok (.iload 12, 2) := by decide +kernel
theorem dL_acts_1259 : decode cL_acts 1259 = .ok (.ifCond .ge 8, 3) := by decide +kernel
theorem dL_acts_1262 : decode cL_acts 1262 = .ok (.ldc 28, 2) := by decide +kernel
theorem dL_acts_1264 : decode cL_acts 1264 = .ok (.goto 14, 3) := by decide +kernel
theorem dL_acts_1267 : decode cL_acts 1267 = .ok (.iload 12, 2) := by decide +kernel
theorem dL_acts_1269 : decode cL_acts 1269 = .ok (.ifCond .le 8, 3) := by decide +kernel
theorem dL_acts_1272 : decode cL_acts 1272 = .ok (.ldc 21, 2) := by decide +kernel
theorem dL_acts_1274 : decode cL_acts 1274 = .ok (.goto 4, 3) := by decide +kernel
theorem dL_acts_1277 : decode cL_acts 1277 = .ok (.iconst 0, 1) := by decide +kernel
theorem dL_acts_1278 : decode cL_acts 1278 = .ok (.istore 13, 2) := by decide +kernel
theorem dL_acts_1280 : decode cL_acts 1280 = .ok (.aload_n 0, 1) := by decide +kernel
theorem dL_acts_1281 : decode cL_acts 1281 = .ok (.iload 11, 2) := by decide +kernel
theorem dL_acts_1283 : decode cL_acts 1283 = .ok (.invokestatic 163, 3) := by decide +kernel
theorem dL_acts_1286 : decode cL_acts 1286 = .ok (.iload 13, 2) := by decide +kernel
theorem dL_acts_1288 : decode cL_acts 1288 = .ok (.if_icmp .ne 33, 3) := by decide +kernel
theorem dL_acts_1291 : decode cL_acts 1291 = .ok (.aload_n 1, 1) := by decide +kernel
theorem dL_acts_1292 : decode cL_acts 1292 = .ok (.iload 11, 2) := by decide +kernel
theorem dL_acts_1294 : decode cL_acts 1294 = .ok (.invokestatic 163, 3) := by decide +kernel
theorem dL_acts_1297 : decode cL_acts 1297 = .ok (.iload 13, 2) := by decide +kernel
theorem dL_acts_1299 : decode cL_acts 1299 = .ok (.if_icmp .ne 22, 3) := by decide +kernel
theorem dL_acts_1302 : decode cL_acts 1302 = .ok (.iload 13, 2) := by decide +kernel
theorem dL_acts_1304 : decode cL_acts 1304 = .ok (.ifCond .lt 13, 3) := by decide +kernel
theorem dL_acts_1307 : decode cL_acts 1307 = .ok (.aload_n 0, 1) := by decide +kernel
theorem dL_acts_1308 : decode cL_acts 1308 = .ok (.iload 11, 2) := by decide +kernel
theorem dL_acts_1310 : decode cL_acts 1310 = .ok (.invokestatic 93, 3) := by decide +kernel
theorem dL_acts_1313 : decode cL_acts 1313 = .ok (.iconst 3, 1) := by decide +kernel
theorem dL_acts_1314 : decode cL_acts 1314 = .ok (.if_icmp .ne 7, 3) := by decide +kernel
theorem dL_acts_1317 : decode cL_acts 1317 = .ok (.iconst 1, 1) := by decide +kernel
theorem dL_acts_1318 : decode cL_acts 1318 = .ok (.goto 4, 3) := by decide +kernel
theorem dL_acts_1321 : decode cL_acts 1321 = .ok (.iconst 0, 1) := by decide +kernel
theorem dL_acts_1322 : decode cL_acts 1322 = .ok (.ireturn, 1) := by decide +kernel
theorem dL_acts_1323 : decode cL_acts 1323 = .ok (.iload 8, 2) := by decide +kernel
theorem dL_acts_1325 : decode cL_acts 1325 = .ok (.bipush 25, 2) := by decide +kernel
theorem dL_acts_1327 : decode cL_acts 1327 = .ok (.if_icmp .ge 136, 3) := by decide +kernel
theorem dL_acts_1330 : decode cL_acts 1330 = .ok (.iconst 0, 1) := by decide +kernel
theorem dL_acts_1331 : decode cL_acts 1331 = .ok (.istore 12, 2) := by decide +kernel
theorem dL_acts_1333 : decode cL_acts 1333 = .ok (.iconst 0, 1) := by decide +kernel
theorem dL_acts_1334 : decode cL_acts 1334 = .ok (.istore 13, 2) := by decide +kernel
theorem dL_acts_1336 : decode cL_acts 1336 = .ok (.iload 13, 2) := by decide +kernel
theorem dL_acts_1338 : decode cL_acts 1338 = .ok (.aload 5, 2) := by decide +kernel
theorem dL_acts_1340 : decode cL_acts 1340 = .ok (.iconst 2, 1) := by decide +kernel
theorem dL_acts_1341 : decode cL_acts 1341 = .ok (.iaload, 1) := by decide +kernel
theorem dL_acts_1342 : decode cL_acts 1342 = .ok (.if_icmp .ge 39, 3) := by decide +kernel
theorem dL_acts_1345 : decode cL_acts 1345 = .ok (.iload 12, 2) := by decide +kernel
theorem dL_acts_1347 : decode cL_acts 1347 = .ok (.aload_n 0, 1) := by decide +kernel
theorem dL_acts_1348 : decode cL_acts 1348 = .ok (.iload 13, 2) := by decide +kernel
theorem dL_acts_1350 : decode cL_acts 1350 = .ok (.invokestatic 102, 3) := by decide +kernel
theorem dL_acts_1353 : decode cL_acts 1353 = .ok (.iload 9, 2) := by decide +kernel
theorem dL_acts_1355 : decode cL_acts 1355 = .ok (.if_icmp .ne 16, 3) := by decide +kernel
theorem dL_acts_1358 : decode cL_acts 1358 = .ok (.aload_n 0, 1) := by decide +kernel
theorem dL_acts_1359 : decode cL_acts 1359 = .ok (.iload 13, 2) := by decide +kernel
theorem dL_acts_1361 : decode cL_acts 1361 = .ok (.invokestatic 93, 3) := by decide +kernel
theorem dL_acts_1364 : decode cL_acts 1364 = .ok (.ifCond .ne 7, 3) := by decide +kernel
theorem dL_acts_1367 : decode cL_acts 1367 = .ok (.iconst 1, 1) := by decide +kernel
theorem dL_acts_1368 : decode cL_acts 1368 = .ok (.goto 4, 3) := by decide +kernel
theorem dL_acts_1371 : decode cL_acts 1371 = .ok (.iconst 0, 1) := by decide +kernel
theorem dL_acts_1372 : decode cL_acts 1372 = .ok (.iadd, 1) := by decide +kernel
theorem dL_acts_1373 : decode cL_acts 1373 = .ok (.istore 12, 2) := by decide +kernel
theorem dL_acts_1375 : decode cL_acts 1375 = .ok (.iinc 13 1, 3) := by decide +kernel
theorem dL_acts_1378 : decode cL_acts 1378 = .ok (.goto (-42), 3) := by decide +kernel
theorem dL_acts_1381 : decode cL_acts 1381 = .ok (.aload_n 0, 1) := by decide +kernel
theorem dL_acts_1382 : decode cL_acts 1382 = .ok (.iload 9, 2) := by decide +kernel
theorem dL_acts_1384 : decode cL_acts 1384 = .ok (.invokestatic 106, 3) := by decide +kernel
theorem dL_acts_1387 : decode cL_acts 1387 = .ok (.iconst 1, 1) := by decide +kernel
theorem dL_acts_1388 : decode cL_acts 1388 = .ok (.if_icmp .ne 8, 3) := by decide +kernel
theorem dL_acts_1391 : decode cL_acts 1391 = .ok (.ldc 21, 2) := by decide +kernel
theorem dL_acts_1393 : decode cL_acts 1393 = .ok (.goto 5, 3) := by decide +kernel
theorem dL_acts_1396 : decode cL_acts 1396 = .ok (.iload 12, 2) := by decide +kernel
theorem dL_acts_1398 : decode cL_acts 1398 = .ok (.istore 13, 2) := by decide +kernel
theorem dL_acts_1400 : decode cL_acts 1400 = .ok (.aload_n 0, 1) := by decide +kernel
theorem dL_acts_1401 : decode cL_acts 1401 = .ok (.iload 9, 2) := by decide +kernel
theorem dL_acts_1403 : decode cL_acts 1403 = .ok (.invokestatic 165, 3) := by decide +kernel
theorem dL_acts_1406 : decode cL_acts 1406 = .ok (.iload 13, 2) := by decide +kernel
theorem dL_acts_1408 : decode cL_acts 1408 = .ok (.if_icmp .ne 53, 3) := by decide +kernel
theorem dL_acts_1411 : decode cL_acts 1411 = .ok (.aload_n 1, 1) := by decide +kernel
theorem dL_acts_1412 : decode cL_acts 1412 = .ok (.iload 9, 2) := by decide +kernel
theorem dL_acts_1414 : decode cL_acts 1414 = .ok (.invokestatic 165, 3) := by decide +kernel
theorem dL_acts_1417 : decode cL_acts 1417 = .ok (.iload 13, 2) := by decide +kernel
theorem dL_acts_1419 : decode cL_acts 1419 = .ok (.if_icmp .ne 42, 3) := by decide +kernel
theorem dL_acts_1422 : decode cL_acts 1422 = .ok (.aload_n 0, 1) := by decide +kernel
theorem dL_acts_1423 : decode cL_acts 1423 = .ok (.iload 9, 2) := by decide +kernel
theorem dL_acts_1425 : decode cL_acts 1425 = .ok (.invokestatic 106, 3) := by decide +kernel
theorem dL_acts_1428 : decode cL_acts 1428 = .ok (.iconst 1, 1) := by decide +kernel
theorem dL_acts_1429 : decode cL_acts 1429 = .ok (.if_icmp .ne 32, 3) := by decide +kernel
theorem dL_acts_1432 : decode cL_acts 1432 = .ok (.aload_n 0, 1) := by decide +kernel
theorem dL_acts_1433 : decode cL_acts 1433 = .ok (.iload 10, 2) := by decide +kernel
theorem dL_acts_1435 : decode cL_acts 1435 = .ok (.iload 9, 2) := by decide +kernel
theorem dL_acts_1437 : decode cL_acts 1437 = .ok (.invokestatic 136, 3) := by decide +kernel
theorem dL_acts_1440 : decode cL_acts 1440 = .ok (.iconst 1, 1) := by decide +kernel
theorem dL_acts_1441 : decode cL_acts 1441 = .ok (.if_icmp .ne 20, 3) := by decide +kernel
theorem dL_acts_1444 : decode cL_acts 1444 = .ok (.aload_n 0, 1) := by decide +kernel
theorem dL_acts_1445 : decode cL_acts 1445 = .ok (.aload 5, 2) := by decide +kernel
theorem dL_acts_1447 : decode cL_acts 1447 = .ok (.iconst 0, 1) := by decide +kernel
theorem dL_acts_1448 : decode cL_acts 1448 = .ok (.iaload, 1) := by decide +kernel
theorem dL_acts_1449 : decode cL_acts 1449 = .ok (.invokestatic 165, 3) := by decide +kernel
theorem dL_acts_1452 : decode cL_acts 1452 = .ok (.ldc 28, 2) := by decide +kernel
theorem dL_acts_1454 : decode cL_acts 1454 = .ok (.if_icmp .ne 7, 3) := by decide +kernel
theorem dL_acts_1457 : decode cL_acts 1457 = .ok (.iconst 1, 1) := by decide +kernel
theorem dL_acts_1458 : decode cL_acts 1458 = .ok (.goto 4, 3) := by decide +kernel
theorem dL_acts_1461 : decode cL_acts 1461 = .ok (.iconst 0, 1) := by decide +kernel
theorem dL_acts_1462 : decode cL_acts 1462 = .ok (.ireturn, 1) := by decide +kernel
theorem dL_acts_1463 : decode cL_acts 1463 = .ok (.aload_n 2, 1) := by decide +kernel
theorem dL_acts_1464 : decode cL_acts 1464 = .ok (.bipush 7, 2) := by decide +kernel
theorem dL_acts_1466 : decode cL_acts 1466 = .ok (.iload 10, 2) := by decide +kernel
theorem dL_acts_1468 : decode cL_acts 1468 = .ok (.imul, 1) := by decide +kernel
theorem dL_acts_1469 : decode cL_acts 1469 = .ok (.bipush 6, 2) := by decide +kernel
theorem dL_acts_1471 : decode cL_acts 1471 = .ok (.iadd, 1) := by decide +kernel
theorem dL_acts_1472 : decode cL_acts 1472 = .ok (.iaload, 1) := by decide +kernel
theorem dL_acts_1473 : decode cL_acts 1473 = .ok (.istore 12, 2) := by decide +kernel
theorem dL_acts_1475 : decode cL_acts 1475 = .ok (.aload_n 2, 1) := by decide +kernel
theorem dL_acts_1476 : decode cL_acts 1476 = .ok (.bipush 7, 2) := by decide +kernel
theorem dL_acts_1478 : decode cL_acts 1478 = .ok (.iload 10, 2) := by decide +kernel
theorem dL_acts_1480 : decode cL_acts 1480 = .ok (.imul, 1) := by decide +kernel
theorem dL_acts_1481 : decode cL_acts 1481 = .ok (.bipush 6, 2) := by decide +kernel
theorem dL_acts_1483 : decode cL_acts 1483 = .ok (.iadd, 1) := by decide +kernel
theorem dL_acts_1484 : decode cL_acts 1484 = .ok (.iload 6, 2) := by decide +kernel
theorem dL_acts_1486 : decode cL_acts 1486 = .ok (.bipush 7, 2) := by decide +kernel
theorem dL_acts_1488 : decode cL_acts 1488 = .ok (.ishr, 1) := by decide +kernel
theorem dL_acts_1489 : decode cL_acts 1489 = .ok (.iconst 2, 1) := by decide +kernel
theorem dL_acts_1490 : decode cL_acts 1490 = .ok (.invokestatic 140, 3) := by decide +kernel
theorem dL_acts_1493 : decode cL_acts 1493 = .ok (.ifCond .ne 7, 3) := by decide +kernel
theorem dL_acts_1496 : decode cL_acts 1496 = .ok (.iconst 1, 1) := by decide +kernel
theorem dL_acts_1497 : decode cL_acts 1497 = .ok (.goto 5, 3) := by decide +kernel
theorem dL_acts_1500 : decode cL_acts 1500 = .ok (.iload 12, 2) := by decide +kernel
theorem dL_acts_1502 : decode cL_acts 1502 = .ok (.iastore, 1) := by decide +kernel
theorem dL_acts_1503 : decode cL_acts 1503 = .ok (.iload 6, 2) := by decide +kernel
theorem dL_acts_1505 : decode cL_acts 1505 = .ok (.bipush 7, 2) := by decide +kernel
theorem dL_acts_1507 : decode cL_acts 1507 = .ok (.ishr, 1) := by decide +kernel
theorem dL_acts_1508 : decode cL_acts 1508 = .ok (.iconst 2, 1) := by decide +kernel
theorem dL_acts_1509 : decode cL_acts 1509 = .ok (.invokestatic 140, 3) := by decide +kernel
theorem dL_acts_1512 : decode cL_acts 1512 = .ok (.ifCond .le 5, 3) := by decide +kernel
theorem dL_acts_1515 : decode cL_acts 1515 = .ok (.iconst 1, 1) := by decide +kernel
theorem dL_acts_1516 : decode cL_acts 1516 = .ok (.ireturn, 1) := by decide +kernel
theorem dL_acts_1517 : decode cL_acts 1517 = .ok (.aload_n 0, 1) := by decide +kernel
theorem dL_acts_1518 : decode cL_acts 1518 = .ok (.iload 10, 2) := by decide +kernel
theorem dL_acts_1520 : decode cL_acts 1520 = .ok (.invokestatic 167, 3) := by decide +kernel
theorem dL_acts_1523 : decode cL_acts 1523 = .ok (.istore 13, 2) := by decide +kernel
theorem dL_acts_1525 : decode cL_acts 1525 = .ok (.aload_n 1, 1) := by decide +kernel
theorem dL_acts_1526 : decode cL_acts 1526 = .ok (.iload 10, 2) := by decide +kernel
theorem dL_acts_1528 : decode cL_acts 1528 = .ok (.invokestatic 167, 3) := by decide +kernel
theorem dL_acts_1531 : decode cL_acts 1531 = .ok (.iload 13, 2) := by decide +kernel
theorem dL_acts_1533 : decode cL_acts 1533 = .ok (.if_icmp .ne 50, 3) := by decide +kernel
theorem dL_acts_1536 : decode cL_acts 1536 = .ok (.iload 13, 2) := by decide +kernel
theorem dL_acts_1538 : decode cL_acts 1538 = .ok (.iload 12, 2) := by decide +kernel
theorem dL_acts_1540 : decode cL_acts 1540 = .ok (.iconst 1, 1) := by decide +kernel
theorem dL_acts_1541 : decode cL_acts 1541 = .ok (.if_icmp .ne 8, 3) := by decide +kernel
theorem dL_acts_1544 : decode cL_acts 1544 = .ok (.ldc 21, 2) := by decide +kernel
theorem dL_acts_1546 : decode cL_acts 1546 = .ok (.goto 9, 3) := by decide +kernel
theorem dL_acts_1549 : decode cL_acts 1549 = .ok (.aload_n 0, 1) := by decide +kernel
theorem dL_acts_1550 : decode cL_acts 1550 = .ok (.iload 10, 2) := by decide +kernel
theorem dL_acts_1552 : decode cL_acts 1552 = .ok (.invokestatic 123, 3) := by decide +kernel
theorem dL_acts_1555 : decode cL_acts 1555 = .ok (.if_icmp .ne 28, 3) := by decide +kernel
theorem dL_acts_1558 : decode cL_acts 1558 = .ok (.aload_n 0, 1) := by decide +kernel
theorem dL_acts_1559 : decode cL_acts 1559 = .ok (.iload 10, 2) := by decide +kernel
theorem dL_acts_1561 : decode cL_acts 1561 = .ok (.invokestatic 167, 3) := by decide +kernel
theorem dL_acts_1564 : decode cL_acts 1564 = .ok (.ldc 21, 2) := by decide +kernel
theorem dL_acts_1566 : decode cL_acts 1566 = .ok (.if_icmp .ne 17, 3) := by decide +kernel
theorem dL_acts_1569 : decode cL_acts 1569 = .ok (.aload_n 0, 1) := by decide +kernel
theorem dL_acts_1570 : decode cL_acts 1570 = .ok (.iconst (-1), 1) := by decide +kernel
theorem dL_acts_1571 : decode cL_acts 1571 = .ok (.invokestatic 167, 3) := by decide +kernel
theorem dL_acts_1574 : decode cL_acts 1574 = .ok (.ldc 28, 2) := by decide +kernel
theorem dL_acts_1576 : decode cL_acts 1576 = .ok (.if_icmp .ne 7, 3) := by decide +kernel
theorem dL_acts_1579 : decode cL_acts 1579 = .ok (.iconst 1, 1) := by decide +kernel
theorem dL_acts_1580 : decode cL_acts 1580 = .ok (.goto 4, 3) := by decide +kernel
theorem dL_acts_1583 : decode cL_acts 1583 = .ok (.iconst 0, 1) := by decide +kernel
theorem dL_acts_1584 : decode cL_acts 1584 = .ok (.ireturn, 1) := by decide +kernel
set_option maxRecDepth 20000 in
theorem ggL_law_X0_init : GoodIn wsL_law wsX0_init := goodIn_r _ [6, 7, 8, 9, 3, 10, 11, 12, 13, 14, 15, 16, 17, 18, 19, 20, 21, 22, 23, 24, 25, 336, 337, 338, 339, 340, 341, 342, 343, 344, 345, 346, 347, 348, 349, 350, 351, 352, 353] (by decide +kernel) (by decide +kernel)
set_option maxRecDepth 20000 in
theorem gL_law_X0_init : GoodIn wsL_law (wsX0_init) := ggL_law_X0_init
set_option maxRecDepth 20000 in
theorem ggL_law_X0_breaks : GoodIn wsL_law wsX0_breaks := goodIn_r _ [29, 30, 336, 337, 338, 339, 340, 341, 342, 343, 344, 345, 346, 347, 348, 349, 350, 351, 352, 353] (by decide +kernel) (by decide +kernel)
set_option maxRecDepth 20000 in
theorem gL_law_X0_breaks : GoodIn wsL_law (wsV RL 108 RX0 yX0_breaks wsX0_breaks) := goodIn_app (goodIn_of _ (by decide +kernel)) ggL_law_X0_breaks
set_option maxRecDepth 20000 in
theorem ggL_law_X0_orders : GoodIn wsL_law wsX0_orders := goodIn_r _ [34, 35, 336, 337, 338, 339, 340, 341, 342, 343, 344, 345, 346, 347, 348, 349, 350, 351, 352, 353] (by decide +kernel) (by decide +kernel)
set_option maxRecDepth 20000 in
theorem gL_law_X0_orders : GoodIn wsL_law (wsV RL 112 RX0 yX0_orders wsX0_orders) := goodIn_app (goodIn_of _ (by decide +kernel)) ggL_law_X0_orders
set_option maxRecDepth 20000 in
theorem ggL_law_X0_spots : GoodIn wsL_law wsX0_spots := goodIn_r _ [39, 40, 336, 337, 338, 339, 340, 341, 342, 343, 344, 345, 346, 347, 348, 349, 350, 351, 352, 353] (by decide +kernel) (by decide +kernel)
set_option maxRecDepth 20000 in
theorem gL_law_X0_spots : GoodIn wsL_law (wsV RL 115 RX0 yX0_spots wsX0_spots) := goodIn_app (goodIn_of _ (by decide +kernel)) ggL_law_X0_spots
set_option maxRecDepth 20000 in
theorem ggL_law_X0_mostOwed : GoodIn wsL_law wsX0_mostOwed := goodIn_r _ [44, 35, 45, 46, 47, 2, 48, 40, 22, 25, 24, 23, 49, 50, 51, 52, 53, 54, 55, 56, 21, 19, 57, 58, 59, 60, 61, 62, 63, 64, 13, 16, 65, 66, 67, 336, 337, 338, 339, 340, 341, 342, 343, 344, 345, 346, 347, 348, 349, 350, 351, 352, 353] (by decide +kernel) (by decide +kernel)
set_option maxRecDepth 20000 in
theorem gL_law_X0_mostOwed : GoodIn wsL_law (wsV RL 131 RX0 yX0_mostOwed wsX0_mostOwed) := goodIn_app (goodIn_of _ (by decide +kernel)) ggL_law_X0_mostOwed
set_option maxRecDepth 20000 in
theorem ggL_law_L_billTo : GoodIn wsL_law wsL_billTo := goodIn_ca (goodIn_r _ [71, 72, 73, 74, 75, 76, 2, 77, 35, 14, 78, 79, 80, 81, 82, 83, 84, 85, 86, 87, 88, 89, 90, 91, 92, 40, 22, 25, 24, 18, 336, 337, 338, 339, 340, 341, 342, 343, 344, 345, 346, 347, 348, 349, 350, 351, 352, 353] (by decide +kernel) (by decide +kernel)) (goodIn_sub (fun _ h => List.mem_append_left _ (List.mem_append_left _ (List.mem_append_right _ h))) (by decide +kernel))
set_option maxRecDepth 20000 in
theorem gL_law_L_billTo : GoodIn wsL_law (va_wsS RL 129 yL_billTo wsL_billTo) := goodIn_app (goodIn_of _ (by decide +kernel)) ggL_law_L_billTo
set_option maxRecDepth 20000 in
theorem ggL_law_L_at : GoodIn wsL_law wsL_at := goodIn_r _ [95, 96, 97] (by decide +kernel) (by decide +kernel)
set_option maxRecDepth 20000 in
theorem gL_law_L_at : GoodIn wsL_law (va_wsS RL 170 yL_at wsL_at) := goodIn_app (goodIn_of _ (by decide +kernel)) ggL_law_L_at
set_option maxRecDepth 20000 in
theorem ggL_law_L_acts : GoodIn wsL_law wsL_acts := goodIn_ca (goodIn_ca (goodIn_ca (goodIn_r _ [100, 101, 73, 102, 103, 104, 105, 106, 70, 107, 108, 109, 110, 111, 72, 112, 113, 114, 115, 2, 116, 30, 10, 81, 82, 83, 84, 85, 86, 87, 88, 117, 118, 119, 120, 121, 122, 123, 124, 125, 126, 127, 128, 129, 130, 35, 14, 15, 16, 17, 18, 19, 20, 78, 79, 80, 131, 132, 133, 134, 135, 136, 137, 138, 139, 140, 141, 142, 143, 144, 13, 145, 146, 147, 148, 149, 150, 151, 152, 153, 65, 66, 67, 154, 155, 156, 157, 158, 159, 160, 161, 162, 163, 164, 165, 166, 167, 168, 169, 170, 171, 172, 173, 174, 175, 12, 176, 177, 178, 179, 40, 23, 22, 180, 181, 182, 183, 24, 61, 62, 63, 64, 184, 185, 186, 187, 188, 189, 190, 191, 192, 193, 194, 195, 196, 197, 198, 199, 200, 201, 202, 45, 46, 47, 48, 25, 49, 50, 51, 52, 53, 54, 55, 56, 21, 57, 58, 59, 60, 203, 204, 205, 206, 207, 208, 209, 210, 211, 212, 213, 214, 215, 216, 217, 218, 219, 220, 221, 222, 223, 224, 225, 226, 227, 228, 229, 230, 231, 232, 233, 234, 235, 236, 237, 238, 239, 240, 241, 242, 243, 244, 245, 246, 247, 248, 249, 250, 251, 252, 253, 254, 255, 256, 257, 258, 259, 260, 261, 262, 263, 264, 265, 266, 267, 268, 269, 270, 271, 272, 273, 274, 275, 276, 277, 278, 279, 280, 281, 282, 283, 284, 285, 286, 287, 288, 289, 290, 291, 292, 293, 294, 295, 296, 297, 298, 299, 300, 301, 302, 303, 304, 305, 306, 307, 308, 336, 337, 338, 339, 340, 341, 342, 343, 344, 345, 346, 347, 348, 349, 350, 351, 352, 353] rfl (by decide +kernel)) (goodIn_sub (fun _ h => List.mem_append_left _ (List.mem_append_left _ (List.mem_append_right _ h))) (by decide +kernel))) (goodIn_sub (fun _ h => List.mem_append_left _ (List.mem_append_right _ h)) (by decide +kernel))) (goodIn_sub (fun _ h => List.mem_append_right _ h) (by decide +kernel))
set_option maxRecDepth 20000 in
theorem gL_law_L_acts : GoodIn wsL_law (va_wsS RL 174 yL_acts wsL_acts) := goodIn_app (goodIn_of _ (by decide +kernel)) ggL_law_L_acts
set_option maxRecDepth 20000 in
theorem ggL_law_L_breaks : GoodIn wsL_law wsL_breaks := goodIn_ca (goodIn_r _ [311, 104, 257, 258, 70, 259, 221, 222, 223, 140, 224, 225, 226, 2, 227, 24, 228, 229, 230, 231, 40, 149, 150, 151, 152, 153, 232, 233, 234, 235, 236, 237, 238, 23, 312, 313, 314, 315, 316, 317, 318, 145, 146, 147, 148, 30, 176, 177, 178, 179, 10, 17, 22, 180, 181, 182, 183, 281, 282, 283, 284, 285, 286, 287, 12, 26, 27, 28, 29, 31, 32, 33, 34, 35, 36, 37, 38, 39, 336, 337, 338, 339, 340, 341, 342, 343, 344, 345, 346, 347, 348, 349, 350, 351, 352, 353] rfl (by decide +kernel)) (goodIn_sub (fun _ h => List.mem_append_right _ h) (by decide +kernel))
set_option maxRecDepth 20000 in
theorem gL_law_L_breaks : GoodIn wsL_law (va_wsS RL 178 yL_breaks wsL_breaks) := goodIn_app (goodIn_of _ (by decide +kernel)) ggL_law_L_breaks
set_option maxRecDepth 20000 in
theorem ggL_law_L_orders : GoodIn wsL_law wsL_orders := goodIn_ca (goodIn_ca (goodIn_r _ [321, 73, 104, 232, 233, 70, 234, 140, 235, 236, 237, 2, 238, 23, 228, 229, 230, 231, 40, 149, 150, 151, 152, 153, 137, 138, 139, 72, 141, 142, 143, 144, 13, 145, 146, 147, 148, 30, 131, 132, 133, 81, 82, 83, 84, 85, 86, 87, 88, 65, 66, 67, 221, 222, 223, 224, 225, 226, 227, 24, 322, 323, 324, 325, 326, 327, 328, 168, 169, 170, 171, 35, 57, 58, 59, 60, 22, 61, 62, 63, 64, 16, 302, 303, 304, 305, 306, 307, 308, 53, 54, 55, 56, 21, 19, 49, 50, 51, 52, 196, 197, 198, 199, 200, 201, 202, 45, 46, 47, 48, 25, 329, 330, 331, 332, 333, 334, 335, 89, 90, 91, 92, 18, 68, 69, 71, 74, 75, 76, 77, 14, 78, 79, 80, 41, 42, 43, 44, 336, 337, 338, 339, 340, 341, 342, 343, 344, 345, 346, 347, 348, 349, 350, 351, 352, 353] rfl (by decide +kernel)) (goodIn_sub (fun _ h => List.mem_append_right _ h) (by decide +kernel))) (goodIn_sub (fun _ h => List.mem_append_left _ (List.mem_append_left _ (List.mem_append_right _ h))) (by decide +kernel))
set_option maxRecDepth 20000 in
theorem gL_law_L_orders : GoodIn wsL_law (va_wsS RL 181 yL_orders wsL_orders) := goodIn_app (goodIn_of _ (by decide +kernel)) ggL_law_L_orders
theorem dL_law_0 : decode cL_law 0 = .ok (.new 11, 3) := by decide +kernel
theorem dL_law_3 : decode cL_law 3 = .ok (.dup, 1) := by decide +kernel
theorem dL_law_4 : decode cL_law 4 = .ok (.invokespecial 169, 3) := by decide +kernel
theorem dL_law_7 : decode cL_law 7 = .ok (.astore_n 1, 1) := by decide +kernel
theorem dL_law_8 : decode cL_law 8 = .ok (.new 11, 3) := by decide +kernel
theorem dL_law_11 : decode cL_law 11 = .ok (.dup, 1) := by decide +kernel
theorem dL_law_12 : decode cL_law 12 = .ok (.invokespecial 169, 3) := by decide +kernel
theorem dL_law_15 : decode cL_law 15 = .ok (.astore_n 2, 1) := by decide +kernel
theorem dL_law_16 : decode cL_law 16 = .ok (.bipush 63, 2) := by decide +kernel
theorem dL_law_18 : decode cL_law 18 = .ok (.newarray .int, 2) := by decide +kernel
theorem dL_law_20 : decode cL_law 20 = .ok (.astore_n 3, 1) := by decide +kernel
theorem dL_law_21 : decode cL_law 21 = .ok (.bipush 24, 2) := by decide +kernel
theorem dL_law_23 : decode cL_law 23 = .ok (.newarray .int, 2) := by decide +kernel
theorem dL_law_25 : decode cL_law 25 = .ok (.astore 4, 2) := by decide +kernel
theorem dL_law_27 : decode cL_law 27 = .ok (.bipush 64, 2) := by decide +kernel
theorem dL_law_29 : decode cL_law 29 = .ok (.newarray .int, 2) := by decide +kernel
theorem dL_law_31 : decode cL_law 31 = .ok (.astore 5, 2) := by decide +kernel
theorem dL_law_33 : decode cL_law 33 = .ok (.iconst 3, 1) := by decide +kernel
theorem dL_law_34 : decode cL_law 34 = .ok (.newarray .int, 2) := by decide +kernel
theorem dL_law_36 : decode cL_law 36 = .ok (.astore 6, 2) := by decide +kernel
theorem dL_law_38 : decode cL_law 38 = .ok (.aload_n 1, 1) := by decide +kernel
theorem dL_law_39 : decode cL_law 39 = .ok (.invokevirtual 108, 3) := by decide +kernel
theorem dL_law_42 : decode cL_law 42 = .ok (.ifCond .ne 38, 3) := by decide +kernel
theorem dL_law_45 : decode cL_law 45 = .ok (.aload_n 1, 1) := by decide +kernel
theorem dL_law_46 : decode cL_law 46 = .ok (.invokevirtual 112, 3) := by decide +kernel
theorem dL_law_49 : decode cL_law 49 = .ok (.ifCond .ne 31, 3) := by decide +kernel
theorem dL_law_52 : decode cL_law 52 = .ok (.aload_n 1, 1) := by decide +kernel
theorem dL_law_53 : decode cL_law 53 = .ok (.invokevirtual 115, 3) := by decide +kernel
theorem dL_law_56 : decode cL_law 56 = .ok (.ifCond .ne 24, 3) := by decide +kernel
theorem dL_law_59 : decode cL_law 59 = .ok (.aload_n 1, 1) := by decide +kernel
theorem dL_law_60 : decode cL_law 60 = .ok (.invokevirtual 131, 3) := by decide +kernel
theorem dL_law_63 : decode cL_law 63 = .ok (.iconst (-1), 1) := by decide +kernel
theorem dL_law_64 : decode cL_law 64 = .ok (.if_icmp .ne 16, 3) := by decide +kernel
theorem dL_law_67 : decode cL_law 67 = .ok (.aload_n 1, 1) := by decide +kernel
theorem dL_law_68 : decode cL_law 68 = .ok (.bipush 9, 2) := by decide +kernel
theorem dL_law_70 : decode cL_law 70 = .ok (.invokestatic 129, 3) := by decide +kernel
theorem dL_law_73 : decode cL_law 73 = .ok (.ifCond .ne 7, 3) := by decide +kernel
theorem dL_law_76 : decode cL_law 76 = .ok (.iconst 1, 1) := by decide +kernel
theorem dL_law_77 : decode cL_law 77 = .ok (.goto 4, 3) := by decide +kernel
theorem dL_law_80 : decode cL_law 80 = .ok (.iconst 0, 1) := by decide +kernel
theorem dL_law_81 : decode cL_law 81 = .ok (.istore 7, 2) := by decide +kernel
theorem dL_law_83 : decode cL_law 83 = .ok (.iconst 0, 1) := by decide +kernel
theorem dL_law_84 : decode cL_law 84 = .ok (.istore 8, 2) := by decide +kernel
theorem dL_law_86 : decode cL_law 86 = .ok (.iload 8, 2) := by decide +kernel
theorem dL_law_88 : decode cL_law 88 = .ok (.bipush 90, 2) := by decide +kernel
theorem dL_law_90 : decode cL_law 90 = .ok (.if_icmp .ge 118, 3) := by decide +kernel
theorem dL_law_93 : decode cL_law 93 = .ok (.iload 7, 2) := by decide +kernel
theorem dL_law_95 : decode cL_law 95 = .ok (.ifCond .eq 113, 3) := by decide +kernel
theorem dL_law_98 : decode cL_law 98 = .ok (.aload_n 1, 1) := by decide +kernel
theorem dL_law_99 : decode cL_law 99 = .ok (.aload_n 2, 1) := by decide +kernel
theorem dL_law_100 : decode cL_law 100 = .ok (.aload_n 3, 1) := by decide +kernel
theorem dL_law_101 : decode cL_law 101 = .ok (.aload 4, 2) := by decide +kernel
theorem dL_law_103 : decode cL_law 103 = .ok (.aload 5, 2) := by decide +kernel
theorem dL_law_105 : decode cL_law 105 = .ok (.aload 6, 2) := by decide +kernel
theorem dL_law_107 : decode cL_law 107 = .ok (.aload_n 0, 1) := by decide +kernel
theorem dL_law_108 : decode cL_law 108 = .ok (.iconst 2, 1) := by decide +kernel
theorem dL_law_109 : decode cL_law 109 = .ok (.iload 8, 2) := by decide +kernel
theorem dL_law_111 : decode cL_law 111 = .ok (.imul, 1) := by decide +kernel
theorem dL_law_112 : decode cL_law 112 = .ok (.invokestatic 170, 3) := by decide +kernel
theorem dL_law_115 : decode cL_law 115 = .ok (.aload_n 0, 1) := by decide +kernel
theorem dL_law_116 : decode cL_law 116 = .ok (.iconst 2, 1) := by decide +kernel
theorem dL_law_117 : decode cL_law 117 = .ok (.iload 8, 2) := by decide +kernel
theorem dL_law_119 : decode cL_law 119 = .ok (.imul, 1) := by decide +kernel
theorem dL_law_120 : decode cL_law 120 = .ok (.iconst 1, 1) := by decide +kernel
theorem dL_law_121 : decode cL_law 121 = .ok (.iadd, 1) := by decide +kernel
theorem dL_law_122 : decode cL_law 122 = .ok (.invokestatic 170, 3) := by decide +kernel
theorem dL_law_125 : decode cL_law 125 = .ok (.invokestatic 174, 3) := by decide +kernel
theorem dL_law_128 : decode cL_law 128 = .ok (.istore 7, 2) := by decide +kernel
theorem dL_law_130 : decode cL_law 130 = .ok (.iload 7, 2) := by decide +kernel
theorem dL_law_132 : decode cL_law 132 = .ok (.ifCond .eq 70, 3) := by decide +kernel
theorem dL_law_135 : decode cL_law 135 = .ok (.iload 8, 2) := by decide +kernel
theorem dL_law_137 : decode cL_law 137 = .ok (.iconst 4, 1) := by decide +kernel
theorem dL_law_138 : decode cL_law 138 = .ok (.irem, 1) := by decide +kernel
theorem dL_law_139 : decode cL_law 139 = .ok (.iconst 3, 1) := by decide +kernel
theorem dL_law_140 : decode cL_law 140 = .ok (.if_icmp .ne 62, 3) := by decide +kernel
theorem dL_law_143 : decode cL_law 143 = .ok (.aload_n 1, 1) := by decide +kernel
theorem dL_law_144 : decode cL_law 144 = .ok (.aload_n 3, 1) := by decide +kernel
theorem dL_law_145 : decode cL_law 145 = .ok (.aload 4, 2) := by decide +kernel
theorem dL_law_147 : decode cL_law 147 = .ok (.aload 5, 2) := by decide +kernel
theorem dL_law_149 : decode cL_law 149 = .ok (.aload 6, 2) := by decide +kernel
theorem dL_law_151 : decode cL_law 151 = .ok (.invokestatic 178, 3) := by decide +kernel
theorem dL_law_154 : decode cL_law 154 = .ok (.ifCond .eq 45, 3) := by decide +kernel
theorem dL_law_157 : decode cL_law 157 = .ok (.aload_n 1, 1) := by decide +kernel
theorem dL_law_158 : decode cL_law 158 = .ok (.aload_n 3, 1) := by decide +kernel
theorem dL_law_159 : decode cL_law 159 = .ok (.aload 5, 2) := by decide +kernel
theorem dL_law_161 : decode cL_law 161 = .ok (.aload 6, 2) := by decide +kernel
theorem dL_law_163 : decode cL_law 163 = .ok (.invokestatic 181, 3) := by decide +kernel
theorem dL_law_166 : decode cL_law 166 = .ok (.ifCond .eq 33, 3) := by decide +kernel
theorem dL_law_169 : decode cL_law 169 = .ok (.aload_n 2, 1) := by decide +kernel
theorem dL_law_170 : decode cL_law 170 = .ok (.aload_n 3, 1) := by decide +kernel
theorem dL_law_171 : decode cL_law 171 = .ok (.aload 4, 2) := by decide +kernel
theorem dL_law_173 : decode cL_law 173 = .ok (.aload 5, 2) := by decide +kernel
theorem dL_law_175 : decode cL_law 175 = .ok (.aload 6, 2) := by decide +kernel
theorem dL_law_177 : decode cL_law 177 = .ok (.invokestatic 178, 3) := by decide +kernel
theorem dL_law_180 : decode cL_law 180 = .ok (.ifCond .eq 19, 3) := by decide +kernel
theorem dL_law_183 : decode cL_law 183 = .ok (.aload_n 2, 1) := by decide +kernel
theorem dL_law_184 : decode cL_law 184 = .ok (.aload_n 3, 1) := by decide +kernel
theorem dL_law_185 : decode cL_law 185 = .ok (.aload 5, 2) := by decide +kernel
theorem dL_law_187 : decode cL_law 187 = .ok (.aload 6, 2) := by decide +kernel
theorem dL_law_189 : decode cL_law 189 = .ok (.invokestatic 181, 3) := by decide +kernel
theorem dL_law_192 : decode cL_law 192 = .ok (.ifCond .eq 7, 3) := by decide +kernel
theorem dL_law_195 : decode cL_law 195 = .ok (.iconst 1, 1) := by decide +kernel
theorem dL_law_196 : decode cL_law 196 = .ok (.goto 4, 3) := by decide +kernel
theorem dL_law_199 : decode cL_law 199 = .ok (.iconst 0, 1) := by decide +kernel
theorem dL_law_200 : decode cL_law 200 = .ok (.istore 7, 2) := by decide +kernel
theorem dL_law_202 : decode cL_law 202 = .ok (.iinc 8 1, 3) := by decide +kernel
theorem dL_law_205 : decode cL_law 205 = .ok (.goto (-119), 3) := by decide +kernel
theorem dL_law_208 : decode cL_law 208 = .ok (.iload 7, 2) := by decide +kernel
theorem dL_law_210 : decode cL_law 210 = .ok (.ireturn, 1) := by decide +kernel
abbrev vwCl : List vw_C := [(RX0, TX0, 18)]
