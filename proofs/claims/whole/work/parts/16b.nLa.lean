set_option maxRecDepth 20000 in
theorem ggL_draft_X2_draft : GoodIn wsL_draft wsX2_draft := goodIn_ca (goodIn_ca (goodIn_r _ [7, 8, 9, 10, 11, 12, 6, 13, 14, 15, 16, 17, 18, 19, 20, 21, 22, 23, 24, 25, 26, 27, 28, 29, 30, 31, 32, 33, 34, 35, 36, 37] (by decide +kernel) (by decide +kernel)) (goodIn_sub (fun _ h => List.mem_cons_of_mem _ (List.mem_append_left _ (List.mem_append_right _ h))) (by decide +kernel))) (goodIn_sub (fun _ h => List.mem_cons_of_mem _ (List.mem_append_right _ h)) (by decide +kernel))
set_option maxRecDepth 20000 in
theorem gL_draft_X2_draft : GoodIn wsL_draft (wsV RL 7 RX2 yX2_draft wsX2_draft) := goodIn_app (goodIn_of _ (by decide +kernel)) ggL_draft_X2_draft
theorem dL_draft_0 : decode cL_draft 0 = .ok (.aload_n 3, 1) := by decide +kernel
theorem dL_draft_1 : decode cL_draft 1 = .ok (.iconst 0, 1) := by decide +kernel
theorem dL_draft_2 : decode cL_draft 2 = .ok (.aload_n 0, 1) := by decide +kernel
theorem dL_draft_3 : decode cL_draft 3 = .ok (.iload_n 1, 1) := by decide +kernel
theorem dL_draft_4 : decode cL_draft 4 = .ok (.iload_n 2, 1) := by decide +kernel
theorem dL_draft_5 : decode cL_draft 5 = .ok (.invokevirtual 7, 3) := by decide +kernel
theorem dL_draft_8 : decode cL_draft 8 = .ok (.i2l, 1) := by decide +kernel
theorem dL_draft_9 : decode cL_draft 9 = .ok (.lastore, 1) := by decide +kernel
theorem dL_draft_10 : decode cL_draft 10 = .ok (.goto 11, 3) := by decide +kernel
theorem dL_draft_13 : decode cL_draft 13 = .ok (.astore 4, 2) := by decide +kernel
theorem dL_draft_15 : decode cL_draft 15 = .ok (.iconst 1, 1) := by decide +kernel
theorem dL_draft_16 : decode cL_draft 16 = .ok (.ireturn, 1) := by decide +kernel
theorem dL_draft_17 : decode cL_draft 17 = .ok (.astore 4, 2) := by decide +kernel
theorem dL_draft_19 : decode cL_draft 19 = .ok (.iconst 2, 1) := by decide +kernel
theorem dL_draft_20 : decode cL_draft 20 = .ok (.ireturn, 1) := by decide +kernel
theorem dL_draft_21 : decode cL_draft 21 = .ok (.iconst 0, 1) := by decide +kernel
theorem dL_draft_22 : decode cL_draft 22 = .ok (.ireturn, 1) := by decide +kernel
set_option maxRecDepth 20000 in
theorem ggL_lay_X2_lay : GoodIn wsL_lay wsX2_lay := goodIn_ca (goodIn_r _ [6, 7, 8, 9, 10, 11, 12, 13, 14, 15, 16, 17, 18, 19, 20, 21, 22, 23, 24, 25, 5, 26, 27, 28, 29, 30, 31, 32, 33, 34, 35, 36, 37, 38, 39, 40, 41, 42, 43, 44, 45, 46, 47, 48, 49, 50, 51, 52, 53, 54, 55, 56, 57, 58, 59, 60, 61, 62, 63, 64, 65, 66, 67, 68, 69, 70, 71, 72, 73, 74, 75, 76, 77, 78, 79, 80, 81, 82, 83, 84, 85, 86, 87, 88, 89, 90, 91, 92, 93, 94, 95, 96, 97, 98, 99, 100, 101, 102, 103] (by decide +kernel) (by decide +kernel)) (goodIn_sub (fun _ h => List.mem_cons_of_mem _ (List.mem_append_right _ h)) (by decide +kernel))
set_option maxRecDepth 20000 in
theorem gL_lay_X2_lay : GoodIn wsL_lay (wsV RL 17 RX2 yX2_lay wsX2_lay) := goodIn_app (goodIn_of _ (by decide +kernel)) ggL_lay_X2_lay
theorem dL_lay_0 : decode cL_lay 0 = .ok (.aload_n 1, 1) := by decide +kernel
theorem dL_lay_1 : decode cL_lay 1 = .ok (.iconst 0, 1) := by decide +kernel
theorem dL_lay_2 : decode cL_lay 2 = .ok (.aload_n 0, 1) := by decide +kernel
theorem dL_lay_3 : decode cL_lay 3 = .ok (.invokevirtual 17, 3) := by decide +kernel
theorem dL_lay_6 : decode cL_lay 6 = .ok (.i2l, 1) := by decide +kernel
theorem dL_lay_7 : decode cL_lay 7 = .ok (.lastore, 1) := by decide +kernel
theorem dL_lay_8 : decode cL_lay 8 = .ok (.goto 6, 3) := by decide +kernel
theorem dL_lay_11 : decode cL_lay 11 = .ok (.astore_n 2, 1) := by decide +kernel
theorem dL_lay_12 : decode cL_lay 12 = .ok (.iconst 1, 1) := by decide +kernel
theorem dL_lay_13 : decode cL_lay 13 = .ok (.ireturn, 1) := by decide +kernel
theorem dL_lay_14 : decode cL_lay 14 = .ok (.iconst 0, 1) := by decide +kernel
theorem dL_lay_15 : decode cL_lay 15 = .ok (.ireturn, 1) := by decide +kernel
set_option maxRecDepth 20000 in
theorem ggL_move_X2_move : GoodIn wsL_move wsX2_move := goodIn_ca (goodIn_ca (goodIn_ca (goodIn_r _ [8, 9, 10, 11, 12, 13, 14, 15, 7, 16, 17, 18, 19, 20, 21, 22, 23, 24, 25, 26, 27, 28, 29, 30, 31, 32, 33, 34, 35, 36, 37, 38, 39, 40, 41, 42, 43, 44, 45, 46, 47, 48, 49, 50, 51, 52, 53, 54, 55, 56, 57, 58, 59, 60, 61, 62, 63, 64, 65, 66, 67, 68, 69, 70, 71, 72, 73, 74, 75, 76, 77, 78, 79, 80, 81, 82, 83, 84, 85, 86, 87, 88, 89, 90, 91, 92, 93, 94, 95, 96, 97, 98, 99, 100, 101, 102, 103, 104, 105, 106, 107, 108, 109, 110, 111, 112, 113, 114, 115, 116, 117, 118, 119, 120, 121, 122, 123, 124] (by decide +kernel) (by decide +kernel)) (goodIn_sub (fun _ h => List.mem_cons_of_mem _ (List.mem_append_left _ (List.mem_append_left _ (List.mem_append_right _ h)))) (by decide +kernel))) (goodIn_sub (fun _ h => List.mem_cons_of_mem _ (List.mem_append_left _ (List.mem_append_right _ h))) (by decide +kernel))) (goodIn_sub (fun _ h => List.mem_cons_of_mem _ (List.mem_append_right _ h)) (by decide +kernel))
set_option maxRecDepth 20000 in
theorem gL_move_X2_move : GoodIn wsL_move (wsV RL 21 RX2 yX2_move wsX2_move) := goodIn_app (goodIn_of _ (by decide +kernel)) ggL_move_X2_move
theorem dL_move_0 : decode cL_move 0 = .ok (.aload 5, 2) := by decide +kernel
theorem dL_move_2 : decode cL_move 2 = .ok (.iconst 0, 1) := by decide +kernel
theorem dL_move_3 : decode cL_move 3 = .ok (.aload_n 0, 1) := by decide +kernel
theorem dL_move_4 : decode cL_move 4 = .ok (.iload_n 1, 1) := by decide +kernel
theorem dL_move_5 : decode cL_move 5 = .ok (.iload_n 2, 1) := by decide +kernel
theorem dL_move_6 : decode cL_move 6 = .ok (.iload_n 3, 1) := by decide +kernel
theorem dL_move_7 : decode cL_move 7 = .ok (.iload 4, 2) := by decide +kernel
theorem dL_move_9 : decode cL_move 9 = .ok (.invokevirtual 21, 3) := by decide +kernel
theorem dL_move_12 : decode cL_move 12 = .ok (.i2l, 1) := by decide +kernel
theorem dL_move_13 : decode cL_move 13 = .ok (.lastore, 1) := by decide +kernel
theorem dL_move_14 : decode cL_move 14 = .ok (.goto 15, 3) := by decide +kernel
theorem dL_move_17 : decode cL_move 17 = .ok (.astore 6, 2) := by decide +kernel
theorem dL_move_19 : decode cL_move 19 = .ok (.iconst 1, 1) := by decide +kernel
theorem dL_move_20 : decode cL_move 20 = .ok (.ireturn, 1) := by decide +kernel
theorem dL_move_21 : decode cL_move 21 = .ok (.astore 6, 2) := by decide +kernel
theorem dL_move_23 : decode cL_move 23 = .ok (.iconst 2, 1) := by decide +kernel
theorem dL_move_24 : decode cL_move 24 = .ok (.ireturn, 1) := by decide +kernel
theorem dL_move_25 : decode cL_move 25 = .ok (.astore 6, 2) := by decide +kernel
theorem dL_move_27 : decode cL_move 27 = .ok (.iconst 3, 1) := by decide +kernel
theorem dL_move_28 : decode cL_move 28 = .ok (.ireturn, 1) := by decide +kernel
theorem dL_move_29 : decode cL_move 29 = .ok (.iconst 0, 1) := by decide +kernel
theorem dL_move_30 : decode cL_move 30 = .ok (.ireturn, 1) := by decide +kernel
set_option maxRecDepth 20000 in
theorem ggL_point_X2_point : GoodIn wsL_point wsX2_point := goodIn_ca (goodIn_r _ [6, 7, 8, 9, 10, 5, 11, 12, 13, 14, 15, 16, 17, 18, 19, 20, 21, 22, 23, 24, 25, 26, 27, 28, 29, 30] (by decide +kernel) (by decide +kernel)) (goodIn_sub (fun _ h => List.mem_cons_of_mem _ (List.mem_append_right _ h)) (by decide +kernel))
set_option maxRecDepth 20000 in
theorem gL_point_X2_point : GoodIn wsL_point (wsV RL 27 RX2 yX2_point wsX2_point) := goodIn_app (goodIn_of _ (by decide +kernel)) ggL_point_X2_point
theorem dL_point_0 : decode cL_point 0 = .ok (.aload_n 3, 1) := by decide +kernel
theorem dL_point_1 : decode cL_point 1 = .ok (.iconst 0, 1) := by decide +kernel
theorem dL_point_2 : decode cL_point 2 = .ok (.aload_n 0, 1) := by decide +kernel
theorem dL_point_3 : decode cL_point 3 = .ok (.iload_n 1, 1) := by decide +kernel
theorem dL_point_4 : decode cL_point 4 = .ok (.iload_n 2, 1) := by decide +kernel
theorem dL_point_5 : decode cL_point 5 = .ok (.invokevirtual 27, 3) := by decide +kernel
theorem dL_point_8 : decode cL_point 8 = .ok (.i2l, 1) := by decide +kernel
theorem dL_point_9 : decode cL_point 9 = .ok (.lastore, 1) := by decide +kernel
theorem dL_point_10 : decode cL_point 10 = .ok (.goto 7, 3) := by decide +kernel
theorem dL_point_13 : decode cL_point 13 = .ok (.astore 4, 2) := by decide +kernel
theorem dL_point_15 : decode cL_point 15 = .ok (.iconst 1, 1) := by decide +kernel
theorem dL_point_16 : decode cL_point 16 = .ok (.ireturn, 1) := by decide +kernel
theorem dL_point_17 : decode cL_point 17 = .ok (.iconst 0, 1) := by decide +kernel
theorem dL_point_18 : decode cL_point 18 = .ok (.ireturn, 1) := by decide +kernel
set_option maxRecDepth 20000 in
theorem ggL_crossings_X2_crossings : GoodIn wsL_crossings wsX2_crossings := goodIn_ca (goodIn_r _ [6, 7, 8, 9, 10, 5, 11, 12, 13, 14, 15, 16, 17, 18, 19, 20, 21, 22, 23, 24, 25, 26, 27, 28, 29, 30, 31, 32, 33, 34, 35, 36, 37] (by decide +kernel) (by decide +kernel)) (goodIn_sub (fun _ h => List.mem_cons_of_mem _ (List.mem_append_right _ h)) (by decide +kernel))
set_option maxRecDepth 20000 in
theorem gL_crossings_X2_crossings : GoodIn wsL_crossings (wsV RL 30 RX2 yX2_crossings wsX2_crossings) := goodIn_app (goodIn_of _ (by decide +kernel)) ggL_crossings_X2_crossings
theorem dL_crossings_0 : decode cL_crossings 0 = .ok (.aload_n 3, 1) := by decide +kernel
theorem dL_crossings_1 : decode cL_crossings 1 = .ok (.iconst 0, 1) := by decide +kernel
theorem dL_crossings_2 : decode cL_crossings 2 = .ok (.aload_n 0, 1) := by decide +kernel
theorem dL_crossings_3 : decode cL_crossings 3 = .ok (.iload_n 1, 1) := by decide +kernel
theorem dL_crossings_4 : decode cL_crossings 4 = .ok (.iload_n 2, 1) := by decide +kernel
theorem dL_crossings_5 : decode cL_crossings 5 = .ok (.invokevirtual 30, 3) := by decide +kernel
theorem dL_crossings_8 : decode cL_crossings 8 = .ok (.i2l, 1) := by decide +kernel
theorem dL_crossings_9 : decode cL_crossings 9 = .ok (.lastore, 1) := by decide +kernel
theorem dL_crossings_10 : decode cL_crossings 10 = .ok (.goto 7, 3) := by decide +kernel
theorem dL_crossings_13 : decode cL_crossings 13 = .ok (.astore 4, 2) := by decide +kernel
theorem dL_crossings_15 : decode cL_crossings 15 = .ok (.iconst 1, 1) := by decide +kernel
theorem dL_crossings_16 : decode cL_crossings 16 = .ok (.ireturn, 1) := by decide +kernel
theorem dL_crossings_17 : decode cL_crossings 17 = .ok (.iconst 0, 1) := by decide +kernel
theorem dL_crossings_18 : decode cL_crossings 18 = .ok (.ireturn, 1) := by decide +kernel
set_option maxRecDepth 20000 in
theorem ggL_crossingsAnew_X2_crossingsAnew : GoodIn wsL_crossingsAnew wsX2_crossingsAnew := goodIn_ca (goodIn_r _ [6, 7, 8, 9, 10, 5, 11, 12, 13, 14, 15, 16, 17, 18, 19, 20, 21, 22, 23, 24, 25, 26, 27, 28, 29, 30, 31, 32, 33, 34, 35, 36, 37, 38, 39, 40, 41, 42, 43, 44, 45, 46, 47, 48, 49, 50, 51, 52, 53, 54, 55, 56, 57, 58, 59, 60, 61, 62, 63, 64, 65, 66, 67, 68, 69, 70, 71, 72, 73, 74, 75, 76, 77, 78, 79, 80, 81, 82, 83, 84, 85, 86, 87, 88, 89, 90, 91, 92] (by decide +kernel) (by decide +kernel)) (goodIn_sub (fun _ h => List.mem_cons_of_mem _ (List.mem_append_right _ h)) (by decide +kernel))
set_option maxRecDepth 20000 in
theorem gL_crossingsAnew_X2_crossingsAnew : GoodIn wsL_crossingsAnew (wsV RL 33 RX2 yX2_crossingsAnew wsX2_crossingsAnew) := goodIn_app (goodIn_of _ (by decide +kernel)) ggL_crossingsAnew_X2_crossingsAnew
theorem dL_crossingsAnew_0 : decode cL_crossingsAnew 0 = .ok (.aload_n 3, 1) := by decide +kernel
theorem dL_crossingsAnew_1 : decode cL_crossingsAnew 1 = .ok (.iconst 0, 1) := by decide +kernel
theorem dL_crossingsAnew_2 : decode cL_crossingsAnew 2 = .ok (.aload_n 0, 1) := by decide +kernel
theorem dL_crossingsAnew_3 : decode cL_crossingsAnew 3 = .ok (.iload_n 1, 1) := by decide +kernel
theorem dL_crossingsAnew_4 : decode cL_crossingsAnew 4 = .ok (.iload_n 2, 1) := by decide +kernel
theorem dL_crossingsAnew_5 : decode cL_crossingsAnew 5 = .ok (.invokevirtual 33, 3) := by decide +kernel
theorem dL_crossingsAnew_8 : decode cL_crossingsAnew 8 = .ok (.i2l, 1) := by decide +kernel
theorem dL_crossingsAnew_9 : decode cL_crossingsAnew 9 = .ok (.lastore, 1) := by decide +kernel
theorem dL_crossingsAnew_10 : decode cL_crossingsAnew 10 = .ok (.goto 7, 3) := by decide +kernel
theorem dL_crossingsAnew_13 : decode cL_crossingsAnew 13 = .ok (.astore 4, 2) := by decide +kernel
theorem dL_crossingsAnew_15 : decode cL_crossingsAnew 15 = .ok (.iconst 1, 1) := by decide +kernel
theorem dL_crossingsAnew_16 : decode cL_crossingsAnew 16 = .ok (.ireturn, 1) := by decide +kernel
theorem dL_crossingsAnew_17 : decode cL_crossingsAnew 17 = .ok (.iconst 0, 1) := by decide +kernel
theorem dL_crossingsAnew_18 : decode cL_crossingsAnew 18 = .ok (.ireturn, 1) := by decide +kernel
set_option maxRecDepth 20000 in
theorem ggL_isWell_X2_isWell : GoodIn wsL_isWell wsX2_isWell := goodIn_ca (goodIn_r _ [6, 7, 8, 9, 5, 10, 11, 12, 13, 14, 15, 16, 17, 18, 19, 20, 21, 22, 23, 24, 25, 26, 27, 28, 29, 30, 31, 32, 33, 34, 35, 36, 37, 38, 39, 40, 41, 42] (by decide +kernel) (by decide +kernel)) (goodIn_sub (fun _ h => List.mem_cons_of_mem _ (List.mem_append_right _ h)) (by decide +kernel))
set_option maxRecDepth 20000 in
theorem gL_isWell_X2_isWell : GoodIn wsL_isWell (wsV RL 36 RX2 yX2_isWell wsX2_isWell) := goodIn_app (goodIn_of _ (by decide +kernel)) ggL_isWell_X2_isWell
theorem dL_isWell_0 : decode cL_isWell 0 = .ok (.aload_n 3, 1) := by decide +kernel
theorem dL_isWell_1 : decode cL_isWell 1 = .ok (.iconst 0, 1) := by decide +kernel
theorem dL_isWell_2 : decode cL_isWell 2 = .ok (.aload_n 0, 1) := by decide +kernel
theorem dL_isWell_3 : decode cL_isWell 3 = .ok (.iload_n 1, 1) := by decide +kernel
theorem dL_isWell_4 : decode cL_isWell 4 = .ok (.iload_n 2, 1) := by decide +kernel
theorem dL_isWell_5 : decode cL_isWell 5 = .ok (.invokevirtual 36, 3) := by decide +kernel
theorem dL_isWell_8 : decode cL_isWell 8 = .ok (.ifCond .eq 7, 3) := by decide +kernel
theorem dL_isWell_11 : decode cL_isWell 11 = .ok (.lconst 1, 1) := by decide +kernel
theorem dL_isWell_12 : decode cL_isWell 12 = .ok (.goto 4, 3) := by decide +kernel
theorem dL_isWell_15 : decode cL_isWell 15 = .ok (.lconst 0, 1) := by decide +kernel
theorem dL_isWell_16 : decode cL_isWell 16 = .ok (.lastore, 1) := by decide +kernel
theorem dL_isWell_17 : decode cL_isWell 17 = .ok (.goto 7, 3) := by decide +kernel
theorem dL_isWell_20 : decode cL_isWell 20 = .ok (.astore 4, 2) := by decide +kernel
theorem dL_isWell_22 : decode cL_isWell 22 = .ok (.iconst 1, 1) := by decide +kernel
theorem dL_isWell_23 : decode cL_isWell 23 = .ok (.ireturn, 1) := by decide +kernel
theorem dL_isWell_24 : decode cL_isWell 24 = .ok (.iconst 0, 1) := by decide +kernel
theorem dL_isWell_25 : decode cL_isWell 25 = .ok (.ireturn, 1) := by decide +kernel
set_option maxRecDepth 20000 in
theorem ggL_agree_X2_agree : GoodIn wsL_agree wsX2_agree := goodIn_ca (goodIn_ca (goodIn_r _ [7, 8, 9, 10, 11, 12, 13, 6, 14, 15, 16, 17, 18, 19, 20, 21, 22, 23, 24, 25, 26, 27, 28, 29, 30, 31, 32, 33, 34, 35, 36, 37, 38, 39, 40, 41, 42, 43, 44, 45, 46, 47, 48, 49, 50] (by decide +kernel) (by decide +kernel)) (goodIn_sub (fun _ h => List.mem_cons_of_mem _ (List.mem_append_left _ (List.mem_append_right _ h))) (by decide +kernel))) (goodIn_sub (fun _ h => List.mem_cons_of_mem _ (List.mem_append_right _ h)) (by decide +kernel))
set_option maxRecDepth 20000 in
theorem gL_agree_X2_agree : GoodIn wsL_agree (wsV RL 40 RX2 yX2_agree wsX2_agree) := goodIn_app (goodIn_of _ (by decide +kernel)) ggL_agree_X2_agree
theorem dL_agree_0 : decode cL_agree 0 = .ok (.aload_n 3, 1) := by decide +kernel
theorem dL_agree_1 : decode cL_agree 1 = .ok (.iconst 0, 1) := by decide +kernel
theorem dL_agree_2 : decode cL_agree 2 = .ok (.aload_n 0, 1) := by decide +kernel
theorem dL_agree_3 : decode cL_agree 3 = .ok (.iload_n 1, 1) := by decide +kernel
theorem dL_agree_4 : decode cL_agree 4 = .ok (.iload_n 2, 1) := by decide +kernel
theorem dL_agree_5 : decode cL_agree 5 = .ok (.invokevirtual 40, 3) := by decide +kernel
theorem dL_agree_8 : decode cL_agree 8 = .ok (.i2l, 1) := by decide +kernel
theorem dL_agree_9 : decode cL_agree 9 = .ok (.lastore, 1) := by decide +kernel
theorem dL_agree_10 : decode cL_agree 10 = .ok (.goto 11, 3) := by decide +kernel
theorem dL_agree_13 : decode cL_agree 13 = .ok (.astore 4, 2) := by decide +kernel
theorem dL_agree_15 : decode cL_agree 15 = .ok (.iconst 1, 1) := by decide +kernel
theorem dL_agree_16 : decode cL_agree 16 = .ok (.ireturn, 1) := by decide +kernel
theorem dL_agree_17 : decode cL_agree 17 = .ok (.astore 4, 2) := by decide +kernel
theorem dL_agree_19 : decode cL_agree 19 = .ok (.iconst 2, 1) := by decide +kernel
theorem dL_agree_20 : decode cL_agree 20 = .ok (.ireturn, 1) := by decide +kernel
theorem dL_agree_21 : decode cL_agree 21 = .ok (.iconst 0, 1) := by decide +kernel
theorem dL_agree_22 : decode cL_agree 22 = .ok (.ireturn, 1) := by decide +kernel
set_option maxRecDepth 20000 in
theorem ggL_isAgreed_X2_isAgreed : GoodIn wsL_isAgreed wsX2_isAgreed := goodIn_ca (goodIn_r _ [6, 7, 8, 9, 10, 5, 11, 12, 13, 14, 15, 16, 17, 18, 19, 20, 21, 22, 23, 24, 25, 26, 27, 28, 29, 30, 31, 32, 33, 34, 35, 36, 37] (by decide +kernel) (by decide +kernel)) (goodIn_sub (fun _ h => List.mem_cons_of_mem _ (List.mem_append_right _ h)) (by decide +kernel))
set_option maxRecDepth 20000 in
theorem gL_isAgreed_X2_isAgreed : GoodIn wsL_isAgreed (wsV RL 43 RX2 yX2_isAgreed wsX2_isAgreed) := goodIn_app (goodIn_of _ (by decide +kernel)) ggL_isAgreed_X2_isAgreed
theorem dL_isAgreed_0 : decode cL_isAgreed 0 = .ok (.aload_n 3, 1) := by decide +kernel
theorem dL_isAgreed_1 : decode cL_isAgreed 1 = .ok (.iconst 0, 1) := by decide +kernel
theorem dL_isAgreed_2 : decode cL_isAgreed 2 = .ok (.aload_n 0, 1) := by decide +kernel
theorem dL_isAgreed_3 : decode cL_isAgreed 3 = .ok (.iload_n 1, 1) := by decide +kernel
theorem dL_isAgreed_4 : decode cL_isAgreed 4 = .ok (.iload_n 2, 1) := by decide +kernel
theorem dL_isAgreed_5 : decode cL_isAgreed 5 = .ok (.invokevirtual 43, 3) := by decide +kernel
theorem dL_isAgreed_8 : decode cL_isAgreed 8 = .ok (.ifCond .eq 7, 3) := by decide +kernel
theorem dL_isAgreed_11 : decode cL_isAgreed 11 = .ok (.lconst 1, 1) := by decide +kernel
theorem dL_isAgreed_12 : decode cL_isAgreed 12 = .ok (.goto 4, 3) := by decide +kernel
theorem dL_isAgreed_15 : decode cL_isAgreed 15 = .ok (.lconst 0, 1) := by decide +kernel
theorem dL_isAgreed_16 : decode cL_isAgreed 16 = .ok (.lastore, 1) := by decide +kernel
theorem dL_isAgreed_17 : decode cL_isAgreed 17 = .ok (.goto 7, 3) := by decide +kernel
theorem dL_isAgreed_20 : decode cL_isAgreed 20 = .ok (.astore 4, 2) := by decide +kernel
theorem dL_isAgreed_22 : decode cL_isAgreed 22 = .ok (.iconst 1, 1) := by decide +kernel
theorem dL_isAgreed_23 : decode cL_isAgreed 23 = .ok (.ireturn, 1) := by decide +kernel
theorem dL_isAgreed_24 : decode cL_isAgreed 24 = .ok (.iconst 0, 1) := by decide +kernel
theorem dL_isAgreed_25 : decode cL_isAgreed 25 = .ok (.ireturn, 1) := by decide +kernel
set_option maxRecDepth 20000 in
theorem ggL_ground_X2_ground : GoodIn wsL_ground wsX2_ground := goodIn_ca (goodIn_ca (goodIn_r _ [7, 8, 9, 10, 11, 12, 13, 14, 15, 6, 16, 17, 18, 19, 20, 21, 22, 23, 24, 25, 26, 27, 28, 29, 30, 31, 32, 33, 34, 35, 36, 37, 38, 39, 40, 41, 42, 43, 44, 45, 46, 47, 48, 49, 50] (by decide +kernel) (by decide +kernel)) (goodIn_sub (fun _ h => List.mem_cons_of_mem _ (List.mem_append_left _ (List.mem_append_right _ h))) (by decide +kernel))) (goodIn_sub (fun _ h => List.mem_cons_of_mem _ (List.mem_append_right _ h)) (by decide +kernel))
set_option maxRecDepth 20000 in
theorem gL_ground_X2_ground : GoodIn wsL_ground (wsV RL 46 RX2 yX2_ground wsX2_ground) := goodIn_app (goodIn_of _ (by decide +kernel)) ggL_ground_X2_ground
theorem dL_ground_0 : decode cL_ground 0 = .ok (.aload 7, 2) := by decide +kernel
theorem dL_ground_2 : decode cL_ground 2 = .ok (.iconst 0, 1) := by decide +kernel
theorem dL_ground_3 : decode cL_ground 3 = .ok (.aload_n 0, 1) := by decide +kernel
theorem dL_ground_4 : decode cL_ground 4 = .ok (.iload_n 1, 1) := by decide +kernel
theorem dL_ground_5 : decode cL_ground 5 = .ok (.iload_n 2, 1) := by decide +kernel
theorem dL_ground_6 : decode cL_ground 6 = .ok (.iload_n 3, 1) := by decide +kernel
theorem dL_ground_7 : decode cL_ground 7 = .ok (.iload 4, 2) := by decide +kernel
theorem dL_ground_9 : decode cL_ground 9 = .ok (.iload 5, 2) := by decide +kernel
theorem dL_ground_11 : decode cL_ground 11 = .ok (.iload 6, 2) := by decide +kernel
theorem dL_ground_13 : decode cL_ground 13 = .ok (.invokevirtual 46, 3) := by decide +kernel
theorem dL_ground_16 : decode cL_ground 16 = .ok (.i2l, 1) := by decide +kernel
theorem dL_ground_17 : decode cL_ground 17 = .ok (.lastore, 1) := by decide +kernel
theorem dL_ground_18 : decode cL_ground 18 = .ok (.goto 11, 3) := by decide +kernel
theorem dL_ground_21 : decode cL_ground 21 = .ok (.astore 8, 2) := by decide +kernel
theorem dL_ground_23 : decode cL_ground 23 = .ok (.iconst 1, 1) := by decide +kernel
theorem dL_ground_24 : decode cL_ground 24 = .ok (.ireturn, 1) := by decide +kernel
theorem dL_ground_25 : decode cL_ground 25 = .ok (.astore 8, 2) := by decide +kernel
theorem dL_ground_27 : decode cL_ground 27 = .ok (.iconst 2, 1) := by decide +kernel
theorem dL_ground_28 : decode cL_ground 28 = .ok (.ireturn, 1) := by decide +kernel
theorem dL_ground_29 : decode cL_ground 29 = .ok (.iconst 0, 1) := by decide +kernel
theorem dL_ground_30 : decode cL_ground 30 = .ok (.ireturn, 1) := by decide +kernel
set_option maxRecDepth 20000 in
theorem ggL_tell_X2_tell : GoodIn wsL_tell wsX2_tell := goodIn_ca (goodIn_ca (goodIn_ca (goodIn_r _ [8, 9, 10, 11, 12, 13, 14, 15, 16, 17, 7, 18, 19, 20, 21, 22, 23, 24, 25, 26, 27, 28, 29, 30, 31, 32, 33, 34, 35, 36, 37, 38, 39, 40, 41, 42, 43, 44, 45] (by decide +kernel) (by decide +kernel)) (goodIn_sub (fun _ h => List.mem_cons_of_mem _ (List.mem_append_left _ (List.mem_append_left _ (List.mem_append_right _ h)))) (by decide +kernel))) (goodIn_sub (fun _ h => List.mem_cons_of_mem _ (List.mem_append_left _ (List.mem_append_right _ h))) (by decide +kernel))) (goodIn_sub (fun _ h => List.mem_cons_of_mem _ (List.mem_append_right _ h)) (by decide +kernel))
set_option maxRecDepth 20000 in
theorem gL_tell_X2_tell : GoodIn wsL_tell (wsV RL 50 RX2 yX2_tell wsX2_tell) := goodIn_app (goodIn_of _ (by decide +kernel)) ggL_tell_X2_tell
theorem dL_tell_0 : decode cL_tell 0 = .ok (.aload_n 3, 1) := by decide +kernel
theorem dL_tell_1 : decode cL_tell 1 = .ok (.iconst 0, 1) := by decide +kernel
theorem dL_tell_2 : decode cL_tell 2 = .ok (.aload_n 0, 1) := by decide +kernel
theorem dL_tell_3 : decode cL_tell 3 = .ok (.iload_n 1, 1) := by decide +kernel
theorem dL_tell_4 : decode cL_tell 4 = .ok (.iload_n 2, 1) := by decide +kernel
theorem dL_tell_5 : decode cL_tell 5 = .ok (.invokevirtual 50, 3) := by decide +kernel
theorem dL_tell_8 : decode cL_tell 8 = .ok (.i2l, 1) := by decide +kernel
theorem dL_tell_9 : decode cL_tell 9 = .ok (.lastore, 1) := by decide +kernel
theorem dL_tell_10 : decode cL_tell 10 = .ok (.goto 15, 3) := by decide +kernel
theorem dL_tell_13 : decode cL_tell 13 = .ok (.astore 4, 2) := by decide +kernel
theorem dL_tell_15 : decode cL_tell 15 = .ok (.iconst 1, 1) := by decide +kernel
theorem dL_tell_16 : decode cL_tell 16 = .ok (.ireturn, 1) := by decide +kernel
theorem dL_tell_17 : decode cL_tell 17 = .ok (.astore 4, 2) := by decide +kernel
theorem dL_tell_19 : decode cL_tell 19 = .ok (.iconst 2, 1) := by decide +kernel
theorem dL_tell_20 : decode cL_tell 20 = .ok (.ireturn, 1) := by decide +kernel
theorem dL_tell_21 : decode cL_tell 21 = .ok (.astore 4, 2) := by decide +kernel
theorem dL_tell_23 : decode cL_tell 23 = .ok (.iconst 3, 1) := by decide +kernel
theorem dL_tell_24 : decode cL_tell 24 = .ok (.ireturn, 1) := by decide +kernel
theorem dL_tell_25 : decode cL_tell 25 = .ok (.iconst 0, 1) := by decide +kernel
theorem dL_tell_26 : decode cL_tell 26 = .ok (.ireturn, 1) := by decide +kernel
set_option maxRecDepth 20000 in
theorem ggL_isClosed_X2_isClosed : GoodIn wsL_isClosed wsX2_isClosed := goodIn_ca (goodIn_ca (goodIn_r _ [7, 8, 9, 10, 11, 6, 12, 13, 14, 15, 16, 17, 18, 19, 20, 21, 22, 23, 24, 25, 26, 27, 28, 29, 30, 31, 32, 33, 34, 35, 36, 37, 38, 39, 40, 41, 42, 43, 44] (by decide +kernel) (by decide +kernel)) (goodIn_sub (fun _ h => List.mem_cons_of_mem _ (List.mem_append_left _ (List.mem_append_right _ h))) (by decide +kernel))) (goodIn_sub (fun _ h => List.mem_cons_of_mem _ (List.mem_append_right _ h)) (by decide +kernel))
set_option maxRecDepth 20000 in
theorem gL_isClosed_X2_isClosed : GoodIn wsL_isClosed (wsV RL 53 RX2 yX2_isClosed wsX2_isClosed) := goodIn_app (goodIn_of _ (by decide +kernel)) ggL_isClosed_X2_isClosed
theorem dL_isClosed_0 : decode cL_isClosed 0 = .ok (.aload_n 3, 1) := by decide +kernel
theorem dL_isClosed_1 : decode cL_isClosed 1 = .ok (.iconst 0, 1) := by decide +kernel
theorem dL_isClosed_2 : decode cL_isClosed 2 = .ok (.aload_n 0, 1) := by decide +kernel
theorem dL_isClosed_3 : decode cL_isClosed 3 = .ok (.iload_n 1, 1) := by decide +kernel
theorem dL_isClosed_4 : decode cL_isClosed 4 = .ok (.iload_n 2, 1) := by decide +kernel
theorem dL_isClosed_5 : decode cL_isClosed 5 = .ok (.invokevirtual 53, 3) := by decide +kernel
theorem dL_isClosed_8 : decode cL_isClosed 8 = .ok (.ifCond .eq 7, 3) := by decide +kernel
theorem dL_isClosed_11 : decode cL_isClosed 11 = .ok (.lconst 1, 1) := by decide +kernel
theorem dL_isClosed_12 : decode cL_isClosed 12 = .ok (.goto 4, 3) := by decide +kernel
theorem dL_isClosed_15 : decode cL_isClosed 15 = .ok (.lconst 0, 1) := by decide +kernel
theorem dL_isClosed_16 : decode cL_isClosed 16 = .ok (.lastore, 1) := by decide +kernel
theorem dL_isClosed_17 : decode cL_isClosed 17 = .ok (.goto 11, 3) := by decide +kernel
theorem dL_isClosed_20 : decode cL_isClosed 20 = .ok (.astore 4, 2) := by decide +kernel
theorem dL_isClosed_22 : decode cL_isClosed 22 = .ok (.iconst 1, 1) := by decide +kernel
theorem dL_isClosed_23 : decode cL_isClosed 23 = .ok (.ireturn, 1) := by decide +kernel
theorem dL_isClosed_24 : decode cL_isClosed 24 = .ok (.astore 4, 2) := by decide +kernel
theorem dL_isClosed_26 : decode cL_isClosed 26 = .ok (.iconst 2, 1) := by decide +kernel
theorem dL_isClosed_27 : decode cL_isClosed 27 = .ok (.ireturn, 1) := by decide +kernel
theorem dL_isClosed_28 : decode cL_isClosed 28 = .ok (.iconst 0, 1) := by decide +kernel
theorem dL_isClosed_29 : decode cL_isClosed 29 = .ok (.ireturn, 1) := by decide +kernel
set_option maxRecDepth 20000 in
theorem ggL_touches_X2_touches : GoodIn wsL_touches wsX2_touches := goodIn_ca (goodIn_r _ [6, 7, 8, 9, 10, 11, 5, 12, 13, 14, 15, 16, 17, 18, 19, 20, 21, 22, 23, 24, 25, 26, 27, 28, 29, 30, 31, 32, 33, 34, 35, 36, 37, 38, 39, 40, 41, 42, 43, 44, 45, 46, 47, 48, 49, 50, 51, 52, 53, 54, 55, 56, 57, 58, 59, 60, 61, 62, 63, 64, 65, 66, 67, 68, 69, 70, 71, 72, 73, 74, 75, 76, 77, 78, 79, 80, 81, 82, 83, 84, 85, 86, 87, 88, 89, 90, 91, 92, 93, 94, 95, 96, 97, 98] (by decide +kernel) (by decide +kernel)) (goodIn_sub (fun _ h => List.mem_cons_of_mem _ (List.mem_append_right _ h)) (by decide +kernel))
set_option maxRecDepth 20000 in
theorem gL_touches_X2_touches : GoodIn wsL_touches (wsV RL 56 RX2 yX2_touches wsX2_touches) := goodIn_app (goodIn_of _ (by decide +kernel)) ggL_touches_X2_touches
theorem dL_touches_0 : decode cL_touches 0 = .ok (.aload 4, 2) := by decide +kernel
theorem dL_touches_2 : decode cL_touches 2 = .ok (.iconst 0, 1) := by decide +kernel
theorem dL_touches_3 : decode cL_touches 3 = .ok (.aload_n 0, 1) := by decide +kernel
theorem dL_touches_4 : decode cL_touches 4 = .ok (.iload_n 1, 1) := by decide +kernel
theorem dL_touches_5 : decode cL_touches 5 = .ok (.iload_n 2, 1) := by decide +kernel
theorem dL_touches_6 : decode cL_touches 6 = .ok (.iload_n 3, 1) := by decide +kernel
theorem dL_touches_7 : decode cL_touches 7 = .ok (.invokevirtual 56, 3) := by decide +kernel
theorem dL_touches_10 : decode cL_touches 10 = .ok (.ifCond .eq 7, 3) := by decide +kernel
theorem dL_touches_13 : decode cL_touches 13 = .ok (.lconst 1, 1) := by decide +kernel
theorem dL_touches_14 : decode cL_touches 14 = .ok (.goto 4, 3) := by decide +kernel
theorem dL_touches_17 : decode cL_touches 17 = .ok (.lconst 0, 1) := by decide +kernel
theorem dL_touches_18 : decode cL_touches 18 = .ok (.lastore, 1) := by decide +kernel
theorem dL_touches_19 : decode cL_touches 19 = .ok (.goto 7, 3) := by decide +kernel
theorem dL_touches_22 : decode cL_touches 22 = .ok (.astore 5, 2) := by decide +kernel
theorem dL_touches_24 : decode cL_touches 24 = .ok (.iconst 1, 1) := by decide +kernel
theorem dL_touches_25 : decode cL_touches 25 = .ok (.ireturn, 1) := by decide +kernel
theorem dL_touches_26 : decode cL_touches 26 = .ok (.iconst 0, 1) := by decide +kernel
theorem dL_touches_27 : decode cL_touches 27 = .ok (.ireturn, 1) := by decide +kernel
set_option maxRecDepth 20000 in
theorem ggL_lifted_X2_lifted : GoodIn wsL_lifted wsX2_lifted := goodIn_ca (goodIn_r _ [6, 7, 8, 9, 5, 10, 11, 12, 13, 14, 15, 16, 17, 18, 19, 20, 21, 22, 23, 24, 25, 26, 27, 28, 29, 30, 31, 32, 33, 34, 35, 36, 37, 38, 39, 40, 41, 42, 43, 44, 45, 46, 47, 48, 49, 50, 51, 52, 53, 54, 55, 56, 57, 58, 59, 60, 61, 62, 63, 64, 65, 66, 67, 68, 69, 70, 71, 72, 73, 74, 75, 76, 77, 78, 79, 80, 81, 82, 83, 84, 85, 86, 87, 88, 89, 90, 91, 92, 93, 94, 95, 96, 97, 98, 99, 100, 101, 102, 103, 104, 105, 106, 107, 108] (by decide +kernel) (by decide +kernel)) (goodIn_sub (fun _ h => List.mem_cons_of_mem _ (List.mem_append_right _ h)) (by decide +kernel))
set_option maxRecDepth 20000 in
theorem gL_lifted_X2_lifted : GoodIn wsL_lifted (wsV RL 60 RX2 yX2_lifted wsX2_lifted) := goodIn_app (goodIn_of _ (by decide +kernel)) ggL_lifted_X2_lifted
theorem dL_lifted_0 : decode cL_lifted 0 = .ok (.aload_n 3, 1) := by decide +kernel
theorem dL_lifted_1 : decode cL_lifted 1 = .ok (.iconst 0, 1) := by decide +kernel
theorem dL_lifted_2 : decode cL_lifted 2 = .ok (.aload_n 0, 1) := by decide +kernel
theorem dL_lifted_3 : decode cL_lifted 3 = .ok (.iload_n 1, 1) := by decide +kernel
theorem dL_lifted_4 : decode cL_lifted 4 = .ok (.iload_n 2, 1) := by decide +kernel
theorem dL_lifted_5 : decode cL_lifted 5 = .ok (.invokevirtual 60, 3) := by decide +kernel
theorem dL_lifted_8 : decode cL_lifted 8 = .ok (.i2l, 1) := by decide +kernel
theorem dL_lifted_9 : decode cL_lifted 9 = .ok (.lastore, 1) := by decide +kernel
theorem dL_lifted_10 : decode cL_lifted 10 = .ok (.goto 7, 3) := by decide +kernel
theorem dL_lifted_13 : decode cL_lifted 13 = .ok (.astore 4, 2) := by decide +kernel
theorem dL_lifted_15 : decode cL_lifted 15 = .ok (.iconst 1, 1) := by decide +kernel
theorem dL_lifted_16 : decode cL_lifted 16 = .ok (.ireturn, 1) := by decide +kernel
theorem dL_lifted_17 : decode cL_lifted 17 = .ok (.iconst 0, 1) := by decide +kernel
theorem dL_lifted_18 : decode cL_lifted 18 = .ok (.ireturn, 1) := by decide +kernel
set_option maxRecDepth 20000 in
theorem ggL_cost_X2_cost : GoodIn wsL_cost wsX2_cost := goodIn_ca (goodIn_ca (goodIn_r _ [7, 8, 9, 10, 6, 11, 12, 13, 14, 15, 16, 17, 18, 19, 20, 21, 22, 23, 24, 25, 26, 27, 28, 29, 30, 31, 32, 33, 34, 35, 36, 37, 38, 39, 40, 41, 42, 43, 44, 45, 46, 47, 48, 49, 50, 51, 52, 53, 54, 55, 56, 57, 58, 59, 60, 61, 62, 63, 64, 65, 66, 67, 68, 69, 70, 71, 72, 73, 74, 75, 76, 77, 78, 79, 80, 81, 82, 83, 84, 85, 86, 87, 88, 89, 90, 91, 92, 93, 94, 95, 96, 97, 98, 99, 100, 101, 102, 103, 104, 105, 106, 107, 108, 109, 110, 111, 112, 113, 114, 115, 116, 117, 118, 119, 120, 121, 122, 123, 124, 125, 126, 127, 128, 129, 130, 131, 132, 133, 134, 135, 136, 137, 138, 139, 140, 141, 142, 143, 144, 145, 146, 147, 148, 149, 150, 151, 152, 153, 154, 155, 156, 157, 158, 159, 160, 161, 162, 163, 164, 165] (by decide +kernel) (by decide +kernel)) (goodIn_sub (fun _ h => List.mem_cons_of_mem _ (List.mem_append_left _ (List.mem_append_right _ h))) (by decide +kernel))) (goodIn_sub (fun _ h => List.mem_cons_of_mem _ (List.mem_append_right _ h)) (by decide +kernel))
set_option maxRecDepth 20000 in
theorem gL_cost_X2_cost : GoodIn wsL_cost (wsV RL 63 RX2 yX2_cost wsX2_cost) := goodIn_app (goodIn_of _ (by decide +kernel)) ggL_cost_X2_cost
theorem dL_cost_0 : decode cL_cost 0 = .ok (.aload 4, 2) := by decide +kernel
theorem dL_cost_2 : decode cL_cost 2 = .ok (.iconst 0, 1) := by decide +kernel
theorem dL_cost_3 : decode cL_cost 3 = .ok (.aload_n 0, 1) := by decide +kernel
theorem dL_cost_4 : decode cL_cost 4 = .ok (.iload_n 1, 1) := by decide +kernel
theorem dL_cost_5 : decode cL_cost 5 = .ok (.iload_n 2, 1) := by decide +kernel
theorem dL_cost_6 : decode cL_cost 6 = .ok (.iload_n 3, 1) := by decide +kernel
theorem dL_cost_7 : decode cL_cost 7 = .ok (.invokevirtual 63, 3) := by decide +kernel
theorem dL_cost_10 : decode cL_cost 10 = .ok (.i2l, 1) := by decide +kernel
theorem dL_cost_11 : decode cL_cost 11 = .ok (.lastore, 1) := by decide +kernel
theorem dL_cost_12 : decode cL_cost 12 = .ok (.goto 11, 3) := by decide +kernel
theorem dL_cost_15 : decode cL_cost 15 = .ok (.astore 5, 2) := by decide +kernel
theorem dL_cost_17 : decode cL_cost 17 = .ok (.iconst 1, 1) := by decide +kernel
theorem dL_cost_18 : decode cL_cost 18 = .ok (.ireturn, 1) := by decide +kernel
theorem dL_cost_19 : decode cL_cost 19 = .ok (.astore 5, 2) := by decide +kernel
theorem dL_cost_21 : decode cL_cost 21 = .ok (.iconst 2, 1) := by decide +kernel
theorem dL_cost_22 : decode cL_cost 22 = .ok (.ireturn, 1) := by decide +kernel
theorem dL_cost_23 : decode cL_cost 23 = .ok (.iconst 0, 1) := by decide +kernel
theorem dL_cost_24 : decode cL_cost 24 = .ok (.ireturn, 1) := by decide +kernel
set_option maxRecDepth 20000 in
theorem ggL_repair_X2_repair : GoodIn wsL_repair wsX2_repair := goodIn_ca (goodIn_ca (goodIn_ca (goodIn_r _ [8, 9, 10, 11, 12, 13, 14, 7, 15, 16, 17, 18, 19, 20, 21, 22, 23, 24, 25, 26, 27, 28, 29, 30, 31, 32, 33, 34, 35, 36, 37, 38, 39, 40, 41, 42, 43, 44, 45, 46, 47, 48, 49, 50, 51, 52, 53, 54, 55, 56, 57, 58, 59, 60, 61, 62, 63, 64, 65, 66, 67, 68, 69, 70, 71, 72, 73, 74, 75, 76, 77, 78, 79, 80, 81, 82, 83, 84, 85, 86, 87, 88, 89, 90, 91, 92, 93, 94, 95, 96, 97, 98, 99, 100, 101, 102, 103, 104, 105, 106, 107, 108, 109, 110, 111, 112, 113, 114, 115, 116, 117, 118, 119, 120, 121, 122, 123, 124, 125, 126, 127, 128, 129, 130, 131, 132, 133, 134, 135, 136, 137, 138, 139, 140, 141, 142, 143, 144, 145, 146, 147, 148, 149, 150, 151, 152, 153, 154, 155, 156, 157, 158, 159, 160, 161, 162, 163, 164, 165, 166, 167, 168, 169, 170, 171, 172, 173] (by decide +kernel) (by decide +kernel)) (goodIn_sub (fun _ h => List.mem_cons_of_mem _ (List.mem_append_left _ (List.mem_append_left _ (List.mem_append_right _ h)))) (by decide +kernel))) (goodIn_sub (fun _ h => List.mem_cons_of_mem _ (List.mem_append_left _ (List.mem_append_right _ h))) (by decide +kernel))) (goodIn_sub (fun _ h => List.mem_cons_of_mem _ (List.mem_append_right _ h)) (by decide +kernel))
set_option maxRecDepth 20000 in
theorem gL_repair_X2_repair : GoodIn wsL_repair (wsV RL 67 RX2 yX2_repair wsX2_repair) := goodIn_app (goodIn_of _ (by decide +kernel)) ggL_repair_X2_repair
theorem dL_repair_0 : decode cL_repair 0 = .ok (.aload 4, 2) := by decide +kernel
theorem dL_repair_2 : decode cL_repair 2 = .ok (.iconst 0, 1) := by decide +kernel
theorem dL_repair_3 : decode cL_repair 3 = .ok (.aload_n 0, 1) := by decide +kernel
theorem dL_repair_4 : decode cL_repair 4 = .ok (.iload_n 1, 1) := by decide +kernel
theorem dL_repair_5 : decode cL_repair 5 = .ok (.iload_n 2, 1) := by decide +kernel
theorem dL_repair_6 : decode cL_repair 6 = .ok (.iload_n 3, 1) := by decide +kernel
theorem dL_repair_7 : decode cL_repair 7 = .ok (.invokevirtual 67, 3) := by decide +kernel
theorem dL_repair_10 : decode cL_repair 10 = .ok (.i2l, 1) := by decide +kernel
theorem dL_repair_11 : decode cL_repair 11 = .ok (.lastore, 1) := by decide +kernel
theorem dL_repair_12 : decode cL_repair 12 = .ok (.goto 15, 3) := by decide +kernel
theorem dL_repair_15 : decode cL_repair 15 = .ok (.astore 5, 2) := by decide +kernel
theorem dL_repair_17 : decode cL_repair 17 = .ok (.iconst 1, 1) := by decide +kernel
theorem dL_repair_18 : decode cL_repair 18 = .ok (.ireturn, 1) := by decide +kernel
theorem dL_repair_19 : decode cL_repair 19 = .ok (.astore 5, 2) := by decide +kernel
theorem dL_repair_21 : decode cL_repair 21 = .ok (.iconst 2, 1) := by decide +kernel
theorem dL_repair_22 : decode cL_repair 22 = .ok (.ireturn, 1) := by decide +kernel
theorem dL_repair_23 : decode cL_repair 23 = .ok (.astore 5, 2) := by decide +kernel
theorem dL_repair_25 : decode cL_repair 25 = .ok (.iconst 3, 1) := by decide +kernel
theorem dL_repair_26 : decode cL_repair 26 = .ok (.ireturn, 1) := by decide +kernel
theorem dL_repair_27 : decode cL_repair 27 = .ok (.iconst 0, 1) := by decide +kernel
theorem dL_repair_28 : decode cL_repair 28 = .ok (.ireturn, 1) := by decide +kernel
set_option maxRecDepth 20000 in
theorem ggL_paid_X2_paid : GoodIn wsL_paid wsX2_paid := goodIn_ca (goodIn_r _ [6, 7, 8, 9, 10, 5, 11, 12, 13, 14, 15, 16, 17, 18, 19, 20, 21, 22, 23, 24, 25, 26, 27, 28, 29, 30, 31, 32] (by decide +kernel) (by decide +kernel)) (goodIn_sub (fun _ h => List.mem_cons_of_mem _ (List.mem_append_right _ h)) (by decide +kernel))
set_option maxRecDepth 20000 in
theorem gL_paid_X2_paid : GoodIn wsL_paid (wsV RL 70 RX2 yX2_paid wsX2_paid) := goodIn_app (goodIn_of _ (by decide +kernel)) ggL_paid_X2_paid
theorem dL_paid_0 : decode cL_paid 0 = .ok (.aload_n 2, 1) := by decide +kernel
theorem dL_paid_1 : decode cL_paid 1 = .ok (.iconst 0, 1) := by decide +kernel
theorem dL_paid_2 : decode cL_paid 2 = .ok (.aload_n 0, 1) := by decide +kernel
theorem dL_paid_3 : decode cL_paid 3 = .ok (.iload_n 1, 1) := by decide +kernel
theorem dL_paid_4 : decode cL_paid 4 = .ok (.invokevirtual 70, 3) := by decide +kernel
theorem dL_paid_7 : decode cL_paid 7 = .ok (.i2l, 1) := by decide +kernel
theorem dL_paid_8 : decode cL_paid 8 = .ok (.lastore, 1) := by decide +kernel
theorem dL_paid_9 : decode cL_paid 9 = .ok (.goto 6, 3) := by decide +kernel
theorem dL_paid_12 : decode cL_paid 12 = .ok (.astore_n 3, 1) := by decide +kernel
theorem dL_paid_13 : decode cL_paid 13 = .ok (.iconst 1, 1) := by decide +kernel
theorem dL_paid_14 : decode cL_paid 14 = .ok (.ireturn, 1) := by decide +kernel
theorem dL_paid_15 : decode cL_paid 15 = .ok (.iconst 0, 1) := by decide +kernel
theorem dL_paid_16 : decode cL_paid 16 = .ok (.ireturn, 1) := by decide +kernel
set_option maxRecDepth 20000 in
theorem ggL_law_X2_init : GoodIn wsL_law wsX2_init := goodIn_r _ [9, 10, 11, 12, 13, 14, 15, 16, 17, 18, 19, 20, 21, 22, 23, 24, 25, 26, 27, 28, 29, 30, 31, 32, 33, 34, 35, 36, 37, 38, 39, 40, 41, 42, 43, 44, 45, 46, 47, 613, 614, 615, 582, 583, 584, 585, 586, 587, 588, 589, 590, 616, 617, 618, 619, 620, 621, 622, 623, 624] (by decide +kernel) (by decide +kernel)
set_option maxRecDepth 20000 in
theorem gL_law_X2_init : GoodIn wsL_law (wsX2_init) := ggL_law_X2_init
set_option maxRecDepth 20000 in
theorem ggL_law_X3_init : GoodIn wsL_law wsX3_init := goodIn_r _ [50, 51, 11, 12, 19, 52, 53, 54, 55, 56, 22, 57, 58, 59, 60, 61, 62, 63, 64, 65, 66, 67, 68, 591, 592, 593, 594, 595, 596, 597, 598, 599, 600, 601, 602, 603, 604, 605, 606, 607, 608, 609, 610, 611, 612] (by decide +kernel) (by decide +kernel)
set_option maxRecDepth 20000 in
theorem gL_law_X3_init : GoodIn wsL_law (wsX3_init) := ggL_law_X3_init
set_option maxRecDepth 20000 in
theorem ggL_law_L_draft : GoodIn wsL_law wsL_draft := goodIn_ca (goodIn_ca (goodIn_r _ [72, 73, 74, 75, 76, 77, 2, 78, 79, 80, 16, 81, 82, 83, 84, 85, 86, 15, 87, 88, 35, 33, 34, 89, 90, 91, 582, 583, 584, 585, 586, 587, 588, 589, 590, 613, 614, 615] (by decide +kernel) (by decide +kernel)) (goodIn_sub (fun _ h => List.mem_append_left _ (List.mem_append_left _ (List.mem_append_right _ h))) (by decide +kernel))) (goodIn_sub (fun _ h => List.mem_append_left _ (List.mem_append_right _ h)) (by decide +kernel))
set_option maxRecDepth 20000 in
theorem gL_law_L_draft : GoodIn wsL_law (va_wsS RL 78 yL_draft wsL_draft) := goodIn_app (goodIn_of _ (by decide +kernel)) ggL_law_L_draft
set_option maxRecDepth 20000 in
theorem ggL_law_X3_draft : GoodIn wsL_law wsX3_draft := goodIn_r _ [95, 96, 52, 53, 97, 98, 5, 99, 100, 101, 102, 103, 104, 105, 106, 107, 591, 592, 593, 594, 595, 596, 597, 598, 599, 600, 601, 602, 603, 604, 605, 606, 607, 608, 609, 610, 611, 612] (by decide +kernel) (by decide +kernel)
set_option maxRecDepth 20000 in
theorem gL_law_X3_draft : GoodIn wsL_law (wsV RL 83 RX3 yX3_draft wsX3_draft) := goodIn_app (goodIn_of _ (by decide +kernel)) ggL_law_X3_draft
set_option maxRecDepth 20000 in
theorem ggL_law_X3_thrown : GoodIn wsL_law wsX3_thrown := goodIn_r _ [111, 107, 591, 592, 593, 594, 595, 596, 597, 598, 599, 600, 601, 602, 603, 604, 605, 606, 607, 608, 609, 610, 611, 612] (by decide +kernel) (by decide +kernel)
set_option maxRecDepth 20000 in
theorem gL_law_X3_thrown : GoodIn wsL_law (wsV RL 84 RX3 yX3_thrown wsX3_thrown) := goodIn_app (goodIn_of _ (by decide +kernel)) ggL_law_X3_thrown
set_option maxRecDepth 20000 in
theorem ggL_law_L_lay : GoodIn wsL_law wsL_lay := goodIn_ca (goodIn_r _ [114, 74, 115, 116, 117, 2, 118, 79, 80, 16, 18, 17, 119, 15, 120, 121, 33, 122, 123, 124, 125, 34, 35, 126, 127, 128, 129, 20, 21, 130, 131, 132, 133, 134, 135, 136, 137, 138, 139, 140, 141, 142, 143, 144, 145, 146, 147, 148, 149, 150, 151, 152, 153, 154, 155, 156, 157, 158, 159, 160, 161, 162, 163, 164, 165, 166, 167, 168, 169, 170, 171, 172, 173, 174, 175, 176, 177, 178, 179, 180, 181, 182, 183, 184, 185, 186, 187, 188, 189, 190, 191, 192, 582, 583, 584, 585, 586, 587, 588, 589, 590, 613, 614, 615] (by decide +kernel) (by decide +kernel)) (goodIn_sub (fun _ h => List.mem_append_left _ (List.mem_append_left _ (List.mem_append_right _ h))) (by decide +kernel))
set_option maxRecDepth 20000 in
theorem gL_law_L_lay : GoodIn wsL_law (va_wsS RL 87 yL_lay wsL_lay) := goodIn_app (goodIn_of _ (by decide +kernel)) ggL_law_L_lay
set_option maxRecDepth 20000 in
theorem ggL_law_X3_lay : GoodIn wsL_law wsX3_lay := goodIn_r _ [196, 96, 197, 55, 52, 56, 53, 54, 103, 104, 105, 5, 106, 107, 591, 592, 593, 594, 595, 596, 597, 598, 599, 600, 601, 602, 603, 604, 605, 606, 607, 608, 609, 610, 611, 612] (by decide +kernel) (by decide +kernel)
set_option maxRecDepth 20000 in
theorem gL_law_X3_lay : GoodIn wsL_law (wsV RL 90 RX3 yX3_lay wsX3_lay) := goodIn_app (goodIn_of _ (by decide +kernel)) ggL_law_X3_lay
set_option maxRecDepth 20000 in
theorem ggL_law_L_move : GoodIn wsL_law wsL_move := goodIn_ca (goodIn_ca (goodIn_ca (goodIn_r _ [200, 201, 73, 74, 202, 203, 204, 2, 205, 79, 80, 17, 18, 206, 207, 208, 209, 210, 211, 212, 213, 214, 215, 81, 82, 83, 84, 85, 86, 15, 87, 88, 35, 33, 34, 126, 127, 128, 129, 20, 21, 130, 131, 132, 133, 134, 135, 136, 137, 138, 139, 140, 141, 142, 143, 144, 145, 146, 147, 148, 149, 150, 151, 152, 153, 154, 155, 156, 157, 158, 159, 160, 161, 162, 163, 164, 165, 166, 167, 168, 169, 170, 171, 172, 173, 174, 175, 176, 177, 178, 179, 180, 181, 182, 183, 184, 185, 186, 187, 188, 189, 190, 191, 192, 216, 217, 218, 219, 23, 220, 221, 222, 223, 582, 583, 584, 585, 586, 587, 588, 589, 590, 613, 614, 615] (by decide +kernel) (by decide +kernel)) (goodIn_sub (fun _ h => List.mem_append_left _ (List.mem_append_left _ (List.mem_append_right _ h))) (by decide +kernel))) (goodIn_sub (fun _ h => List.mem_append_right _ h) (by decide +kernel))) (goodIn_sub (fun _ h => List.mem_append_left _ (List.mem_append_right _ h)) (by decide +kernel))
set_option maxRecDepth 20000 in
theorem gL_law_L_move : GoodIn wsL_law (va_wsS RL 91 yL_move wsL_move) := goodIn_app (goodIn_of _ (by decide +kernel)) ggL_law_L_move
set_option maxRecDepth 20000 in
theorem ggL_law_X3_move : GoodIn wsL_law wsX3_move := goodIn_r _ [227, 55, 56, 197, 57, 228, 229, 230, 5, 231, 54, 232, 233, 234, 235, 236, 237, 238, 239, 100, 101, 102, 97, 98, 99, 103, 104, 105, 106, 107, 240, 241, 242, 243, 244, 245, 246, 247, 248, 249, 250, 251, 252, 253, 254, 255, 256, 257, 258, 259, 260, 261, 262, 263, 264, 265, 266, 267, 268, 269, 591, 592, 593, 594, 595, 596, 597, 598, 599, 600, 601, 602, 603, 604, 605, 606, 607, 608, 609, 610, 611, 612] (by decide +kernel) (by decide +kernel)
set_option maxRecDepth 20000 in
theorem gL_law_X3_move : GoodIn wsL_law (wsV RL 94 RX3 yX3_move wsX3_move) := goodIn_app (goodIn_of _ (by decide +kernel)) ggL_law_X3_move
set_option maxRecDepth 20000 in
theorem ggL_law_X2_cables : GoodIn wsL_law wsX2_cables := goodIn_r _ [273, 18, 582, 583, 584, 585, 586, 587, 588, 589, 590] (by decide +kernel) (by decide +kernel)
set_option maxRecDepth 20000 in
theorem gL_law_X2_cables : GoodIn wsL_law (wsV RL 95 RX2 yX2_cables wsX2_cables) := goodIn_app (goodIn_of _ (by decide +kernel)) ggL_law_X2_cables
set_option maxRecDepth 20000 in
theorem ggL_law_X3_cables : GoodIn wsL_law wsX3_cables := goodIn_r _ [277, 107, 197, 591, 592, 593, 594, 595, 596, 597, 598, 599, 600, 601, 602, 603, 604, 605, 606, 607, 608, 609, 610, 611, 612] (by decide +kernel) (by decide +kernel)
set_option maxRecDepth 20000 in
theorem gL_law_X3_cables : GoodIn wsL_law (wsV RL 98 RX3 yX3_cables wsX3_cables) := goodIn_app (goodIn_of _ (by decide +kernel)) ggL_law_X3_cables
set_option maxRecDepth 20000 in
theorem ggL_law_L_point : GoodIn wsL_law wsL_point := goodIn_ca (goodIn_r _ [280, 201, 281, 282, 283, 2, 284, 17, 206, 207, 208, 209, 210, 211, 212, 213, 214, 215, 18, 582, 583, 584, 585, 586, 587, 588, 589, 590, 613, 614, 615] (by decide +kernel) (by decide +kernel)) (goodIn_sub (fun _ h => List.mem_append_right _ h) (by decide +kernel))
set_option maxRecDepth 20000 in
theorem gL_law_L_point : GoodIn wsL_law (va_wsS RL 99 yL_point wsL_point) := goodIn_app (goodIn_of _ (by decide +kernel)) ggL_law_L_point
set_option maxRecDepth 20000 in
theorem ggL_law_X3_point : GoodIn wsL_law wsX3_point := goodIn_r _ [288, 55, 56, 232, 233, 234, 5, 235, 54, 236, 237, 238, 239, 197, 100, 101, 102, 103, 104, 105, 106, 107, 591, 592, 593, 594, 595, 596, 597, 598, 599, 600, 601, 602, 603, 604, 605, 606, 607, 608, 609, 610, 611, 612] (by decide +kernel) (by decide +kernel)
set_option maxRecDepth 20000 in
theorem gL_law_X3_point : GoodIn wsL_law (wsV RL 101 RX3 yX3_point wsX3_point) := goodIn_app (goodIn_of _ (by decide +kernel)) ggL_law_X3_point
set_option maxRecDepth 20000 in
theorem ggL_law_L_crossings : GoodIn wsL_law wsL_crossings := goodIn_ca (goodIn_r _ [291, 201, 292, 293, 294, 2, 295, 20, 296, 297, 298, 299, 212, 213, 214, 215, 210, 211, 18, 130, 131, 132, 133, 134, 135, 136, 137, 138, 139, 582, 583, 584, 585, 586, 587, 588, 589, 590] (by decide +kernel) (by decide +kernel)) (goodIn_sub (fun _ h => List.mem_append_right _ h) (by decide +kernel))
set_option maxRecDepth 20000 in
theorem gL_law_L_crossings : GoodIn wsL_law (va_wsS RL 102 yL_crossings wsL_crossings) := goodIn_app (goodIn_of _ (by decide +kernel)) ggL_law_L_crossings
set_option maxRecDepth 20000 in
theorem ggL_law_X3_crossings : GoodIn wsL_law wsX3_crossings := goodIn_r _ [303, 304, 305, 306, 5, 307, 236, 237, 238, 239, 197, 100, 101, 102, 103, 104, 105, 106, 107, 262, 263, 264, 265, 54, 244, 245, 246, 247, 55, 56, 248, 249, 250, 251, 252, 253, 254, 255, 256, 257, 591, 592, 593, 594, 595, 596, 597, 598, 599, 600, 601, 602, 603, 604, 605, 606, 607, 608, 609, 610, 611, 612] (by decide +kernel) (by decide +kernel)
set_option maxRecDepth 20000 in
theorem gL_law_X3_crossings : GoodIn wsL_law (wsV RL 104 RX3 yX3_crossings wsX3_crossings) := goodIn_app (goodIn_of _ (by decide +kernel)) ggL_law_X3_crossings
set_option maxRecDepth 20000 in
theorem ggL_law_L_crossingsAnew : GoodIn wsL_law wsL_crossingsAnew := goodIn_ca (goodIn_r _ [310, 201, 311, 312, 313, 2, 314, 17, 296, 297, 298, 299, 212, 213, 214, 215, 210, 211, 18, 140, 141, 142, 143, 15, 144, 145, 35, 146, 147, 148, 149, 150, 151, 152, 33, 153, 134, 135, 136, 154, 155, 156, 157, 34, 158, 159, 160, 161, 162, 138, 139, 163, 164, 165, 166, 167, 168, 169, 170, 171, 172, 173, 174, 175, 176, 177, 178, 179, 180, 181, 182, 183, 184, 185, 186, 187, 188, 189, 190, 191, 192, 582, 583, 584, 585, 586, 587, 588, 589, 590, 613, 614, 615] (by decide +kernel) (by decide +kernel)) (goodIn_sub (fun _ h => List.mem_append_right _ h) (by decide +kernel))
set_option maxRecDepth 20000 in
theorem gL_law_L_crossingsAnew : GoodIn wsL_law (va_wsS RL 105 yL_crossingsAnew wsL_crossingsAnew) := goodIn_app (goodIn_of _ (by decide +kernel)) ggL_law_L_crossingsAnew
set_option maxRecDepth 20000 in
theorem ggL_law_X3_crossingsAnew : GoodIn wsL_law wsX3_crossingsAnew := goodIn_r _ [318, 304, 305, 306, 5, 307, 236, 237, 238, 239, 197, 100, 101, 102, 103, 104, 105, 106, 107, 262, 263, 264, 265, 54, 244, 245, 246, 247, 55, 56, 248, 249, 250, 251, 252, 253, 254, 255, 256, 257, 591, 592, 593, 594, 595, 596, 597, 598, 599, 600, 601, 602, 603, 604, 605, 606, 607, 608, 609, 610, 611, 612] (by decide +kernel) (by decide +kernel)
set_option maxRecDepth 20000 in
theorem gL_law_X3_crossingsAnew : GoodIn wsL_law (wsV RL 107 RX3 yX3_crossingsAnew wsX3_crossingsAnew) := goodIn_app (goodIn_of _ (by decide +kernel)) ggL_law_X3_crossingsAnew
set_option maxRecDepth 20000 in
theorem ggL_law_L_isWell : GoodIn wsL_law wsL_isWell := goodIn_ca (goodIn_r _ [321, 201, 322, 323, 324, 2, 325, 296, 297, 298, 299, 212, 213, 214, 215, 210, 211, 18, 220, 221, 222, 223, 20, 21, 130, 131, 132, 133, 134, 135, 136, 137, 138, 139, 582, 583, 584, 585, 586, 587, 588, 589, 590] (by decide +kernel) (by decide +kernel)) (goodIn_sub (fun _ h => List.mem_append_right _ h) (by decide +kernel))
set_option maxRecDepth 20000 in
theorem gL_law_L_isWell : GoodIn wsL_law (va_wsS RL 108 yL_isWell wsL_isWell) := goodIn_app (goodIn_of _ (by decide +kernel)) ggL_law_L_isWell
set_option maxRecDepth 20000 in
theorem ggL_law_X3_isWell : GoodIn wsL_law wsX3_isWell := goodIn_r _ [329, 304, 305, 306, 5, 307, 236, 237, 238, 239, 197, 100, 101, 102, 103, 104, 105, 106, 107, 240, 241, 242, 243, 54, 244, 245, 246, 247, 55, 56, 248, 249, 250, 251, 252, 253, 254, 255, 256, 257, 258, 259, 260, 261, 262, 263, 264, 265, 591, 592, 593, 594, 595, 596, 597, 598, 599, 600, 601, 602, 603, 604, 605, 606, 607, 608, 609, 610, 611, 612] (by decide +kernel) (by decide +kernel)
set_option maxRecDepth 20000 in
theorem gL_law_X3_isWell : GoodIn wsL_law (wsV RL 110 RX3 yX3_isWell wsX3_isWell) := goodIn_app (goodIn_of _ (by decide +kernel)) ggL_law_X3_isWell
set_option maxRecDepth 20000 in
theorem ggL_law_L_agree : GoodIn wsL_law wsL_agree := goodIn_ca (goodIn_ca (goodIn_r _ [332, 201, 74, 333, 334, 335, 2, 336, 79, 80, 23, 296, 297, 298, 299, 212, 213, 214, 215, 210, 211, 18, 130, 131, 132, 133, 134, 135, 136, 137, 138, 139, 220, 221, 222, 223, 20, 21, 337, 338, 339, 340, 582, 583, 584, 585, 586, 587, 588, 589, 590] (by decide +kernel) (by decide +kernel)) (goodIn_sub (fun _ h => List.mem_append_left _ (List.mem_append_left _ (List.mem_append_right _ h))) (by decide +kernel))) (goodIn_sub (fun _ h => List.mem_append_right _ h) (by decide +kernel))
set_option maxRecDepth 20000 in
theorem gL_law_L_agree : GoodIn wsL_law (va_wsS RL 111 yL_agree wsL_agree) := goodIn_app (goodIn_of _ (by decide +kernel)) ggL_law_L_agree
set_option maxRecDepth 20000 in
theorem ggL_law_X3_agree : GoodIn wsL_law wsX3_agree := goodIn_r _ [344, 57, 304, 305, 306, 5, 307, 236, 237, 238, 239, 197, 100, 101, 102, 240, 241, 242, 243, 54, 244, 245, 246, 247, 55, 56, 248, 249, 250, 251, 252, 253, 254, 255, 256, 257, 258, 259, 260, 261, 262, 263, 264, 265, 103, 104, 105, 106, 107, 266, 267, 268, 269, 345, 346, 347, 348, 349, 350, 351, 352, 591, 592, 593, 594, 595, 596, 597, 598, 599, 600, 601, 602, 603, 604, 605, 606, 607, 608, 609, 610, 611, 612] (by decide +kernel) (by decide +kernel)
set_option maxRecDepth 20000 in
theorem gL_law_X3_agree : GoodIn wsL_law (wsV RL 113 RX3 yX3_agree wsX3_agree) := goodIn_app (goodIn_of _ (by decide +kernel)) ggL_law_X3_agree
set_option maxRecDepth 20000 in
theorem ggL_law_L_isAgreed : GoodIn wsL_law wsL_isAgreed := goodIn_ca (goodIn_r _ [355, 201, 356, 357, 358, 2, 359, 23, 296, 297, 298, 299, 212, 213, 214, 215, 210, 211, 18, 130, 131, 132, 133, 134, 135, 136, 137, 138, 139, 582, 583, 584, 585, 586, 587, 588, 589, 590] (by decide +kernel) (by decide +kernel)) (goodIn_sub (fun _ h => List.mem_append_right _ h) (by decide +kernel))
set_option maxRecDepth 20000 in
theorem gL_law_L_isAgreed : GoodIn wsL_law (va_wsS RL 114 yL_isAgreed wsL_isAgreed) := goodIn_app (goodIn_of _ (by decide +kernel)) ggL_law_L_isAgreed
set_option maxRecDepth 20000 in
theorem ggL_law_X3_isAgreed : GoodIn wsL_law wsX3_isAgreed := goodIn_r _ [363, 57, 304, 305, 306, 5, 307, 236, 237, 238, 239, 197, 100, 101, 102, 103, 104, 105, 106, 107, 591, 592, 593, 594, 595, 596, 597, 598, 599, 600, 601, 602, 603, 604, 605, 606, 607, 608, 609, 610, 611, 612] (by decide +kernel) (by decide +kernel)
set_option maxRecDepth 20000 in
theorem gL_law_X3_isAgreed : GoodIn wsL_law (wsV RL 116 RX3 yX3_isAgreed wsX3_isAgreed) := goodIn_app (goodIn_of _ (by decide +kernel)) ggL_law_X3_isAgreed
set_option maxRecDepth 20000 in
theorem ggL_law_X2_bare : GoodIn wsL_law wsX2_bare := goodIn_r _ [367, 337, 338, 339, 2, 340, 18, 20, 23, 130, 131, 132, 133, 134, 135, 136, 137, 138, 139, 582, 583, 584, 585, 586, 587, 588, 589, 590] (by decide +kernel) (by decide +kernel)
set_option maxRecDepth 20000 in
theorem gL_law_X2_bare : GoodIn wsL_law (wsV RL 117 RX2 yX2_bare wsX2_bare) := goodIn_app (goodIn_of _ (by decide +kernel)) ggL_law_X2_bare
set_option maxRecDepth 20000 in
theorem ggL_law_X3_bare : GoodIn wsL_law wsX3_bare := goodIn_r _ [371, 107, 345, 346, 347, 5, 348, 197, 349, 350, 351, 352, 57, 262, 263, 264, 265, 54, 244, 245, 246, 247, 55, 56, 248, 249, 250, 251, 252, 253, 254, 255, 256, 257, 100, 101, 102, 591, 592, 593, 594, 595, 596, 597, 598, 599, 600, 601, 602, 603, 604, 605, 606, 607, 608, 609, 610, 611, 612] (by decide +kernel) (by decide +kernel)
set_option maxRecDepth 20000 in
theorem gL_law_X3_bare : GoodIn wsL_law (wsV RL 120 RX3 yX3_bare wsX3_bare) := goodIn_app (goodIn_of _ (by decide +kernel)) ggL_law_X3_bare
set_option maxRecDepth 20000 in
theorem ggL_law_L_ground : GoodIn wsL_law wsL_ground := goodIn_ca (goodIn_ca (goodIn_r _ [374, 73, 74, 375, 376, 377, 2, 378, 84, 85, 79, 80, 26, 25, 81, 82, 83, 379, 380, 381, 382, 29, 383, 384, 39, 40, 41, 42, 385, 386, 387, 43, 44, 582, 583, 584, 585, 586, 587, 588, 589, 590, 616, 617, 618, 619, 620, 621, 622, 623, 624] (by decide +kernel) (by decide +kernel)) (goodIn_sub (fun _ h => List.mem_append_left _ (List.mem_append_right _ h)) (by decide +kernel))) (goodIn_sub (fun _ h => List.mem_append_left _ (List.mem_append_left _ (List.mem_append_right _ h))) (by decide +kernel))
set_option maxRecDepth 20000 in
theorem gL_law_L_ground : GoodIn wsL_law (va_wsS RL 121 yL_ground wsL_ground) := goodIn_app (goodIn_of _ (by decide +kernel)) ggL_law_L_ground
set_option maxRecDepth 20000 in
theorem ggL_law_X3_ground : GoodIn wsL_law wsX3_ground := goodIn_r _ [391, 392, 58, 59, 60, 61, 62, 63, 97, 98, 5, 99, 100, 101, 102, 393, 394, 395, 103, 104, 105, 106, 107, 591, 592, 593, 594, 595, 596, 597, 598, 599, 600, 601, 602, 603, 604, 605, 606, 607, 608, 609, 610, 611, 612] (by decide +kernel) (by decide +kernel)
set_option maxRecDepth 20000 in
theorem gL_law_X3_ground : GoodIn wsL_law (wsV RL 124 RX3 yX3_ground wsX3_ground) := goodIn_app (goodIn_of _ (by decide +kernel)) ggL_law_X3_ground
set_option maxRecDepth 20000 in
theorem ggL_law_L_tell : GoodIn wsL_law wsL_tell := goodIn_ca (goodIn_ca (goodIn_ca (goodIn_r _ [398, 201, 73, 74, 399, 400, 401, 2, 402, 84, 85, 79, 80, 403, 25, 404, 405, 406, 407, 210, 211, 26, 408, 29, 409, 410, 45, 46, 582, 583, 584, 585, 586, 587, 588, 589, 590, 616, 617, 618, 619, 620, 621, 622, 623, 624] (by decide +kernel) (by decide +kernel)) (goodIn_sub (fun _ h => List.mem_append_left _ (List.mem_append_right _ h)) (by decide +kernel))) (goodIn_sub (fun _ h => List.mem_append_left _ (List.mem_append_left _ (List.mem_append_right _ h))) (by decide +kernel))) (goodIn_sub (fun _ h => List.mem_append_right _ h) (by decide +kernel))
set_option maxRecDepth 20000 in
theorem gL_law_L_tell : GoodIn wsL_law (va_wsS RL 125 yL_tell wsL_tell) := goodIn_app (goodIn_of _ (by decide +kernel)) ggL_law_L_tell
set_option maxRecDepth 20000 in
theorem ggL_law_X3_tell : GoodIn wsL_law wsX3_tell := goodIn_r _ [414, 415, 65, 64, 416, 417, 418, 5, 419, 392, 100, 101, 102, 103, 104, 105, 106, 107, 420, 421, 422, 423, 591, 592, 593, 594, 595, 596, 597, 598, 599, 600, 601, 602, 603, 604, 605, 606, 607, 608, 609, 610, 611, 612] (by decide +kernel) (by decide +kernel)
set_option maxRecDepth 20000 in
theorem gL_law_X3_tell : GoodIn wsL_law (wsV RL 127 RX3 yX3_tell wsX3_tell) := goodIn_app (goodIn_of _ (by decide +kernel)) ggL_law_X3_tell
set_option maxRecDepth 20000 in
theorem ggL_law_L_isClosed : GoodIn wsL_law wsL_isClosed := goodIn_ca (goodIn_ca (goodIn_r _ [426, 201, 73, 427, 428, 429, 2, 430, 25, 404, 405, 406, 407, 210, 211, 26, 379, 380, 381, 84, 85, 431, 29, 432, 433, 43, 44, 582, 583, 584, 585, 586, 587, 588, 589, 590, 616, 617, 618, 619, 620, 621, 622, 623, 624] (by decide +kernel) (by decide +kernel)) (goodIn_sub (fun _ h => List.mem_append_right _ h) (by decide +kernel))) (goodIn_sub (fun _ h => List.mem_append_left _ (List.mem_append_right _ h)) (by decide +kernel))
set_option maxRecDepth 20000 in
theorem gL_law_L_isClosed : GoodIn wsL_law (va_wsS RL 128 yL_isClosed wsL_isClosed) := goodIn_app (goodIn_of _ (by decide +kernel)) ggL_law_L_isClosed
set_option maxRecDepth 20000 in
theorem ggL_law_X3_isClosed : GoodIn wsL_law wsX3_isClosed := goodIn_r _ [437, 416, 417, 418, 5, 419, 392, 100, 101, 102, 393, 394, 395, 103, 104, 105, 106, 107, 438, 439, 440, 441, 62, 63, 591, 592, 593, 594, 595, 596, 597, 598, 599, 600, 601, 602, 603, 604, 605, 606, 607, 608, 609, 610, 611, 612] (by decide +kernel) (by decide +kernel)
set_option maxRecDepth 20000 in
theorem gL_law_X3_isClosed : GoodIn wsL_law (wsV RL 130 RX3 yX3_isClosed wsX3_isClosed) := goodIn_app (goodIn_of _ (by decide +kernel)) ggL_law_X3_isClosed
set_option maxRecDepth 20000 in
theorem ggL_law_L_touches : GoodIn wsL_law wsL_touches := goodIn_ca (goodIn_r _ [444, 201, 445, 446, 447, 2, 448, 17, 25, 449, 450, 451, 452, 210, 211, 212, 213, 214, 215, 18, 143, 15, 144, 145, 35, 404, 405, 406, 407, 26, 453, 454, 455, 167, 168, 169, 170, 149, 150, 151, 152, 33, 153, 134, 135, 136, 158, 159, 160, 161, 162, 138, 139, 154, 155, 156, 157, 34, 163, 164, 165, 166, 456, 457, 458, 459, 175, 176, 177, 178, 179, 180, 181, 182, 183, 184, 185, 186, 582, 583, 584, 585, 586, 587, 588, 589, 590, 613, 614, 615, 616, 617, 618, 619, 620, 621, 622, 623, 624] (by decide +kernel) (by decide +kernel)) (goodIn_sub (fun _ h => List.mem_append_right _ h) (by decide +kernel))
set_option maxRecDepth 20000 in
theorem gL_law_L_touches : GoodIn wsL_law (va_wsS RL 131 yL_touches wsL_touches) := goodIn_app (goodIn_of _ (by decide +kernel)) ggL_law_L_touches
set_option maxRecDepth 20000 in
theorem ggL_law_X3_touches : GoodIn wsL_law wsX3_touches := goodIn_r _ [463, 464, 465, 466, 5, 467, 54, 236, 237, 238, 239, 197, 100, 101, 102, 416, 417, 418, 419, 392, 103, 104, 105, 106, 107, 468, 469, 470, 471, 58, 59, 60, 61, 55, 56, 248, 249, 250, 251, 252, 253, 254, 255, 256, 257, 591, 592, 593, 594, 595, 596, 597, 598, 599, 600, 601, 602, 603, 604, 605, 606, 607, 608, 609, 610, 611, 612] (by decide +kernel) (by decide +kernel)
set_option maxRecDepth 20000 in
theorem gL_law_X3_touches : GoodIn wsL_law (wsV RL 134 RX3 yX3_touches wsX3_touches) := goodIn_app (goodIn_of _ (by decide +kernel)) ggL_law_X3_touches
set_option maxRecDepth 20000 in
theorem ggL_law_L_lifted : GoodIn wsL_law wsL_lifted := goodIn_ca (goodIn_r _ [474, 201, 475, 476, 477, 2, 478, 449, 450, 451, 452, 210, 211, 17, 212, 213, 214, 215, 18, 143, 15, 144, 145, 35, 479, 480, 481, 482, 483, 484, 485, 486, 487, 488, 489, 490, 491, 492, 493, 494, 495, 496, 146, 147, 148, 149, 150, 151, 152, 33, 153, 134, 135, 136, 154, 155, 156, 157, 34, 158, 159, 160, 161, 162, 138, 139, 163, 164, 165, 166, 167, 168, 169, 170, 171, 172, 173, 174, 175, 176, 177, 178, 179, 180, 181, 182, 183, 184, 185, 186, 497, 498, 499, 500, 501, 502, 503, 582, 583, 584, 585, 586, 587, 588, 589, 590, 613, 614, 615] (by decide +kernel) (by decide +kernel)) (goodIn_sub (fun _ h => List.mem_append_right _ h) (by decide +kernel))
set_option maxRecDepth 20000 in
theorem gL_law_L_lifted : GoodIn wsL_law (va_wsS RL 135 yL_lifted wsL_lifted) := goodIn_app (goodIn_of _ (by decide +kernel)) ggL_law_L_lifted
set_option maxRecDepth 20000 in
theorem ggL_law_X3_lifted : GoodIn wsL_law wsX3_lifted := goodIn_r _ [507, 464, 465, 466, 5, 467, 54, 236, 237, 238, 239, 197, 100, 101, 102, 103, 104, 105, 106, 107, 508, 509, 510, 511, 67, 68, 244, 245, 246, 247, 55, 56, 248, 249, 250, 251, 252, 253, 254, 255, 256, 257, 591, 592, 593, 594, 595, 596, 597, 598, 599, 600, 601, 602, 603, 604, 605, 606, 607, 608, 609, 610, 611, 612] (by decide +kernel) (by decide +kernel)
set_option maxRecDepth 20000 in
theorem gL_law_X3_lifted : GoodIn wsL_law (wsV RL 137 RX3 yX3_lifted wsX3_lifted) := goodIn_app (goodIn_of _ (by decide +kernel)) ggL_law_X3_lifted
set_option maxRecDepth 20000 in
theorem ggL_law_L_cost : GoodIn wsL_law wsL_cost := goodIn_ca (goodIn_ca (goodIn_r _ [514, 201, 73, 515, 516, 517, 2, 518, 449, 450, 451, 452, 210, 211, 17, 212, 213, 214, 215, 18, 143, 15, 144, 145, 35, 379, 380, 381, 84, 85, 479, 480, 481, 482, 483, 484, 485, 486, 487, 488, 489, 490, 491, 492, 493, 494, 495, 496, 146, 147, 148, 149, 150, 151, 152, 33, 153, 134, 135, 136, 154, 155, 156, 157, 34, 158, 159, 160, 161, 162, 138, 139, 163, 164, 165, 166, 167, 168, 169, 170, 171, 172, 173, 174, 175, 176, 177, 178, 179, 180, 181, 182, 183, 184, 185, 186, 519, 520, 521, 522, 23, 130, 131, 132, 133, 137, 523, 524, 525, 526, 26, 25, 497, 498, 499, 500, 501, 502, 503, 527, 528, 529, 530, 431, 29, 432, 433, 43, 44, 531, 532, 533, 534, 453, 454, 455, 456, 457, 458, 459, 408, 409, 410, 45, 46, 582, 583, 584, 585, 586, 587, 588, 589, 590, 613, 614, 615, 616, 617, 618, 619, 620, 621, 622, 623, 624] (by decide +kernel) (by decide +kernel)) (goodIn_sub (fun _ h => List.mem_append_right _ h) (by decide +kernel))) (goodIn_sub (fun _ h => List.mem_append_left _ (List.mem_append_right _ h)) (by decide +kernel))
set_option maxRecDepth 20000 in
theorem gL_law_L_cost : GoodIn wsL_law (va_wsS RL 138 yL_cost wsL_cost) := goodIn_app (goodIn_of _ (by decide +kernel)) ggL_law_L_cost
set_option maxRecDepth 20000 in
theorem ggL_law_X3_cost : GoodIn wsL_law wsX3_cost := goodIn_r _ [538, 464, 465, 466, 5, 467, 54, 236, 237, 238, 239, 197, 100, 101, 102, 393, 394, 395, 103, 104, 105, 106, 107, 539, 540, 541, 542, 392, 66, 508, 509, 510, 511, 67, 68, 244, 245, 246, 247, 55, 56, 248, 249, 250, 251, 252, 253, 254, 255, 256, 257, 543, 544, 545, 546, 349, 350, 351, 352, 57, 262, 263, 264, 265, 547, 548, 549, 550, 438, 439, 440, 441, 62, 63, 468, 469, 470, 471, 58, 59, 60, 61, 420, 421, 422, 423, 65, 64, 591, 592, 593, 594, 595, 596, 597, 598, 599, 600, 601, 602, 603, 604, 605, 606, 607, 608, 609, 610, 611, 612] (by decide +kernel) (by decide +kernel)
set_option maxRecDepth 20000 in
theorem gL_law_X3_cost : GoodIn wsL_law (wsV RL 140 RX3 yX3_cost wsX3_cost) := goodIn_app (goodIn_of _ (by decide +kernel)) ggL_law_X3_cost
set_option maxRecDepth 20000 in
theorem ggL_law_L_repair : GoodIn wsL_law wsL_repair := goodIn_ca (goodIn_ca (goodIn_ca (goodIn_r _ [553, 201, 73, 74, 554, 555, 556, 2, 557, 79, 80, 27, 449, 450, 451, 452, 210, 211, 17, 212, 213, 214, 215, 18, 143, 15, 144, 145, 35, 379, 380, 381, 84, 85, 479, 480, 481, 482, 483, 484, 485, 486, 487, 488, 489, 490, 491, 492, 493, 494, 495, 496, 146, 147, 148, 149, 150, 151, 152, 33, 153, 134, 135, 136, 154, 155, 156, 157, 34, 158, 159, 160, 161, 162, 138, 139, 163, 164, 165, 166, 167, 168, 169, 170, 171, 172, 173, 174, 175, 176, 177, 178, 179, 180, 181, 182, 183, 184, 185, 186, 519, 520, 521, 522, 23, 130, 131, 132, 133, 137, 558, 559, 560, 561, 26, 25, 527, 528, 529, 530, 431, 29, 432, 433, 43, 44, 531, 532, 533, 534, 453, 454, 455, 456, 457, 458, 459, 408, 409, 410, 45, 46, 523, 524, 525, 526, 497, 498, 499, 500, 501, 502, 503, 582, 583, 584, 585, 586, 587, 588, 589, 590, 613, 614, 615, 616, 617, 618, 619, 620, 621, 622, 623, 624] (by decide +kernel) (by decide +kernel)) (goodIn_sub (fun _ h => List.mem_append_left _ (List.mem_append_left _ (List.mem_append_right _ h))) (by decide +kernel))) (goodIn_sub (fun _ h => List.mem_append_right _ h) (by decide +kernel))) (goodIn_sub (fun _ h => List.mem_append_left _ (List.mem_append_right _ h)) (by decide +kernel))
set_option maxRecDepth 20000 in
theorem gL_law_L_repair : GoodIn wsL_law (va_wsS RL 141 yL_repair wsL_repair) := goodIn_app (goodIn_of _ (by decide +kernel)) ggL_law_L_repair
set_option maxRecDepth 20000 in
theorem ggL_law_X3_repair : GoodIn wsL_law wsX3_repair := goodIn_r _ [565, 566, 567, 568, 569, 5, 570, 464, 465, 466, 467, 54, 236, 237, 238, 239, 197, 100, 101, 102, 393, 394, 395, 539, 540, 541, 542, 392, 66, 508, 509, 510, 511, 67, 68, 244, 245, 246, 247, 55, 56, 248, 249, 250, 251, 252, 253, 254, 255, 256, 257, 543, 544, 545, 546, 349, 350, 351, 352, 57, 262, 263, 264, 265, 547, 548, 549, 550, 438, 439, 440, 441, 62, 63, 468, 469, 470, 471, 58, 59, 60, 61, 420, 421, 422, 423, 65, 64, 103, 104, 105, 106, 107, 591, 592, 593, 594, 595, 596, 597, 598, 599, 600, 601, 602, 603, 604, 605, 606, 607, 608, 609, 610, 611, 612] (by decide +kernel) (by decide +kernel)
set_option maxRecDepth 20000 in
theorem gL_law_X3_repair : GoodIn wsL_law (wsV RL 143 RX3 yX3_repair wsX3_repair) := goodIn_app (goodIn_of _ (by decide +kernel)) ggL_law_X3_repair
set_option maxRecDepth 20000 in
theorem ggL_law_L_paid : GoodIn wsL_law wsL_paid := goodIn_ca (goodIn_r _ [573, 201, 574, 575, 576, 2, 577, 25, 404, 405, 406, 407, 210, 211, 26, 582, 583, 584, 585, 586, 587, 588, 589, 590, 616, 617, 618, 619, 620, 621, 622, 623, 624] (by decide +kernel) (by decide +kernel)) (goodIn_sub (fun _ h => List.mem_append_right _ h) (by decide +kernel))
set_option maxRecDepth 20000 in
theorem gL_law_L_paid : GoodIn wsL_law (va_wsS RL 144 yL_paid wsL_paid) := goodIn_app (goodIn_of _ (by decide +kernel)) ggL_law_L_paid
set_option maxRecDepth 20000 in
theorem ggL_law_X3_paid : GoodIn wsL_law wsX3_paid := goodIn_r _ [581, 66, 416, 417, 418, 5, 419, 392, 100, 101, 102, 103, 104, 105, 106, 107, 591, 592, 593, 594, 595, 596, 597, 598, 599, 600, 601, 602, 603, 604, 605, 606, 607, 608, 609, 610, 611, 612] (by decide +kernel) (by decide +kernel)
set_option maxRecDepth 20000 in
theorem gL_law_X3_paid : GoodIn wsL_law (wsV RL 147 RX3 yX3_paid wsX3_paid) := goodIn_app (goodIn_of _ (by decide +kernel)) ggL_law_X3_paid
theorem dL_law_0 : decode cL_law 0 = .ok (.new 8, 3) := by decide +kernel
theorem dL_law_3 : decode cL_law 3 = .ok (.dup, 1) := by decide +kernel
theorem dL_law_4 : decode cL_law 4 = .ok (.invokespecial 74, 3) := by decide +kernel
theorem dL_law_7 : decode cL_law 7 = .ok (.astore_n 1, 1) := by decide +kernel
theorem dL_law_8 : decode cL_law 8 = .ok (.new 75, 3) := by decide +kernel
theorem dL_law_11 : decode cL_law 11 = .ok (.dup, 1) := by decide +kernel
theorem dL_law_12 : decode cL_law 12 = .ok (.invokespecial 77, 3) := by decide +kernel
theorem dL_law_15 : decode cL_law 15 = .ok (.astore_n 2, 1) := by decide +kernel
theorem dL_law_16 : decode cL_law 16 = .ok (.iconst 1, 1) := by decide +kernel
theorem dL_law_17 : decode cL_law 17 = .ok (.newarray .long, 2) := by decide +kernel
theorem dL_law_19 : decode cL_law 19 = .ok (.astore_n 3, 1) := by decide +kernel
theorem dL_law_20 : decode cL_law 20 = .ok (.iconst 0, 1) := by decide +kernel
theorem dL_law_21 : decode cL_law 21 = .ok (.istore 4, 2) := by decide +kernel
theorem dL_law_23 : decode cL_law 23 = .ok (.iload 4, 2) := by decide +kernel
theorem dL_law_25 : decode cL_law 25 = .ok (.aload_n 0, 1) := by decide +kernel
theorem dL_law_26 : decode cL_law 26 = .ok (.arraylength, 1) := by decide +kernel
theorem dL_law_27 : decode cL_law 27 = .ok (.bipush 7, 2) := by decide +kernel
theorem dL_law_29 : decode cL_law 29 = .ok (.isub, 1) := by decide +kernel
theorem dL_law_30 : decode cL_law 30 = .ok (.if_icmp .gt 1392, 3) := by decide +kernel
theorem dL_law_33 : decode cL_law 33 = .ok (.aload_n 0, 1) := by decide +kernel
theorem dL_law_34 : decode cL_law 34 = .ok (.iload 4, 2) := by decide +kernel
theorem dL_law_36 : decode cL_law 36 = .ok (.iaload, 1) := by decide +kernel
theorem dL_law_37 : decode cL_law 37 = .ok (.bipush 31, 2) := by decide +kernel
theorem dL_law_39 : decode cL_law 39 = .ok (.iand, 1) := by decide +kernel
theorem dL_law_40 : decode cL_law 40 = .ok (.tableswitch 1376 0 18 #[92, 160, 204, 296, 309, 377, 445, 513, 588, 656, 731, 744, 862, 930, 1005, 1092, 1160, 1240, 1320], 92) := by decide +kernel
theorem dL_law_132 : decode cL_law 132 = .ok (.aload_n 1, 1) := by decide +kernel
theorem dL_law_133 : decode cL_law 133 = .ok (.aload_n 0, 1) := by decide +kernel
theorem dL_law_134 : decode cL_law 134 = .ok (.iload 4, 2) := by decide +kernel
theorem dL_law_136 : decode cL_law 136 = .ok (.iconst 1, 1) := by decide +kernel
theorem dL_law_137 : decode cL_law 137 = .ok (.iadd, 1) := by decide +kernel
theorem dL_law_138 : decode cL_law 138 = .ok (.iaload, 1) := by decide +kernel
theorem dL_law_139 : decode cL_law 139 = .ok (.aload_n 0, 1) := by decide +kernel
theorem dL_law_140 : decode cL_law 140 = .ok (.iload 4, 2) := by decide +kernel
theorem dL_law_142 : decode cL_law 142 = .ok (.iconst 2, 1) := by decide +kernel
theorem dL_law_143 : decode cL_law 143 = .ok (.iadd, 1) := by decide +kernel
theorem dL_law_144 : decode cL_law 144 = .ok (.iaload, 1) := by decide +kernel
theorem dL_law_145 : decode cL_law 145 = .ok (.aload_n 3, 1) := by decide +kernel
theorem dL_law_146 : decode cL_law 146 = .ok (.invokestatic 78, 3) := by decide +kernel
theorem dL_law_149 : decode cL_law 149 = .ok (.istore 5, 2) := by decide +kernel
theorem dL_law_151 : decode cL_law 151 = .ok (.aload_n 2, 1) := by decide +kernel
theorem dL_law_152 : decode cL_law 152 = .ok (.aload_n 0, 1) := by decide +kernel
theorem dL_law_153 : decode cL_law 153 = .ok (.iload 4, 2) := by decide +kernel
theorem dL_law_155 : decode cL_law 155 = .ok (.iconst 1, 1) := by decide +kernel
theorem dL_law_156 : decode cL_law 156 = .ok (.iadd, 1) := by decide +kernel
theorem dL_law_157 : decode cL_law 157 = .ok (.iaload, 1) := by decide +kernel
theorem dL_law_158 : decode cL_law 158 = .ok (.aload_n 0, 1) := by decide +kernel
theorem dL_law_159 : decode cL_law 159 = .ok (.iload 4, 2) := by decide +kernel
theorem dL_law_161 : decode cL_law 161 = .ok (.iconst 2, 1) := by decide +kernel
theorem dL_law_162 : decode cL_law 162 = .ok (.iadd, 1) := by decide +kernel
theorem dL_law_163 : decode cL_law 163 = .ok (.iaload, 1) := by decide +kernel
theorem dL_law_164 : decode cL_law 164 = .ok (.invokevirtual 83, 3) := by decide +kernel
theorem dL_law_167 : decode cL_law 167 = .ok (.istore 6, 2) := by decide +kernel
theorem dL_law_169 : decode cL_law 169 = .ok (.aload_n 2, 1) := by decide +kernel
theorem dL_law_170 : decode cL_law 170 = .ok (.invokevirtual 84, 3) := by decide +kernel
theorem dL_law_173 : decode cL_law 173 = .ok (.iload 5, 2) := by decide +kernel
theorem dL_law_175 : decode cL_law 175 = .ok (.if_icmp .eq 5, 3) := by decide +kernel
theorem dL_law_178 : decode cL_law 178 = .ok (.iconst 0, 1) := by decide +kernel
theorem dL_law_179 : decode cL_law 179 = .ok (.ireturn, 1) := by decide +kernel
theorem dL_law_180 : decode cL_law 180 = .ok (.iload 5, 2) := by decide +kernel
theorem dL_law_182 : decode cL_law 182 = .ok (.ifCond .ne 15, 3) := by decide +kernel
theorem dL_law_185 : decode cL_law 185 = .ok (.aload_n 3, 1) := by decide +kernel
theorem dL_law_186 : decode cL_law 186 = .ok (.iconst 0, 1) := by decide +kernel
theorem dL_law_187 : decode cL_law 187 = .ok (.laload, 1) := by decide +kernel
theorem dL_law_188 : decode cL_law 188 = .ok (.iload 6, 2) := by decide +kernel
theorem dL_law_190 : decode cL_law 190 = .ok (.i2l, 1) := by decide +kernel
theorem dL_law_191 : decode cL_law 191 = .ok (.lcmp, 1) := by decide +kernel
theorem dL_law_192 : decode cL_law 192 = .ok (.ifCond .eq 5, 3) := by decide +kernel
theorem dL_law_195 : decode cL_law 195 = .ok (.iconst 0, 1) := by decide +kernel
theorem dL_law_196 : decode cL_law 196 = .ok (.ireturn, 1) := by decide +kernel
theorem dL_law_197 : decode cL_law 197 = .ok (.goto 1219, 3) := by decide +kernel
theorem dL_law_200 : decode cL_law 200 = .ok (.aload_n 1, 1) := by decide +kernel
theorem dL_law_201 : decode cL_law 201 = .ok (.aload_n 3, 1) := by decide +kernel
theorem dL_law_202 : decode cL_law 202 = .ok (.invokestatic 87, 3) := by decide +kernel
theorem dL_law_205 : decode cL_law 205 = .ok (.istore 5, 2) := by decide +kernel
theorem dL_law_207 : decode cL_law 207 = .ok (.aload_n 2, 1) := by decide +kernel
theorem dL_law_208 : decode cL_law 208 = .ok (.invokevirtual 90, 3) := by decide +kernel
theorem dL_law_211 : decode cL_law 211 = .ok (.istore 6, 2) := by decide +kernel
theorem dL_law_213 : decode cL_law 213 = .ok (.aload_n 2, 1) := by decide +kernel
theorem dL_law_214 : decode cL_law 214 = .ok (.invokevirtual 84, 3) := by decide +kernel
theorem dL_law_217 : decode cL_law 217 = .ok (.iload 5, 2) := by decide +kernel
theorem dL_law_219 : decode cL_law 219 = .ok (.if_icmp .eq 5, 3) := by decide +kernel
theorem dL_law_222 : decode cL_law 222 = .ok (.iconst 0, 1) := by decide +kernel
theorem dL_law_223 : decode cL_law 223 = .ok (.ireturn, 1) := by decide +kernel
theorem dL_law_224 : decode cL_law 224 = .ok (.iload 5, 2) := by decide +kernel
theorem dL_law_226 : decode cL_law 226 = .ok (.ifCond .ne 15, 3) := by decide +kernel
theorem dL_law_229 : decode cL_law 229 = .ok (.aload_n 3, 1) := by decide +kernel
theorem dL_law_230 : decode cL_law 230 = .ok (.iconst 0, 1) := by decide +kernel
theorem dL_law_231 : decode cL_law 231 = .ok (.laload, 1) := by decide +kernel
theorem dL_law_232 : decode cL_law 232 = .ok (.iload 6, 2) := by decide +kernel
theorem dL_law_234 : decode cL_law 234 = .ok (.i2l, 1) := by decide +kernel
theorem dL_law_235 : decode cL_law 235 = .ok (.lcmp, 1) := by decide +kernel
theorem dL_law_236 : decode cL_law 236 = .ok (.ifCond .eq 5, 3) := by decide +kernel
theorem dL_law_239 : decode cL_law 239 = .ok (.iconst 0, 1) := by decide +kernel
theorem dL_law_240 : decode cL_law 240 = .ok (.ireturn, 1) := by decide +kernel
theorem dL_law_241 : decode cL_law 241 = .ok (.goto 1175, 3) := by decide +kernel
theorem dL_law_244 : decode cL_law 244 = .ok (.aload_n 1, 1) := by decide +kernel
theorem dL_law_245 : decode cL_law 245 = .ok (.aload_n 0, 1) := by decide +kernel
theorem dL_law_246 : decode cL_law 246 = .ok (.iload 4, 2) := by decide +kernel
theorem dL_law_248 : decode cL_law 248 = .ok (.iconst 1, 1) := by decide +kernel
theorem dL_law_249 : decode cL_law 249 = .ok (.iadd, 1) := by decide +kernel
theorem dL_law_250 : decode cL_law 250 = .ok (.iaload, 1) := by decide +kernel
theorem dL_law_251 : decode cL_law 251 = .ok (.aload_n 0, 1) := by decide +kernel
theorem dL_law_252 : decode cL_law 252 = .ok (.iload 4, 2) := by decide +kernel
theorem dL_law_254 : decode cL_law 254 = .ok (.iconst 2, 1) := by decide +kernel
theorem dL_law_255 : decode cL_law 255 = .ok (.iadd, 1) := by decide +kernel
theorem dL_law_256 : decode cL_law 256 = .ok (.iaload, 1) := by decide +kernel
theorem dL_law_257 : decode cL_law 257 = .ok (.aload_n 0, 1) := by decide +kernel
theorem dL_law_258 : decode cL_law 258 = .ok (.iload 4, 2) := by decide +kernel
theorem dL_law_260 : decode cL_law 260 = .ok (.iconst 3, 1) := by decide +kernel
theorem dL_law_261 : decode cL_law 261 = .ok (.iadd, 1) := by decide +kernel
theorem dL_law_262 : decode cL_law 262 = .ok (.iaload, 1) := by decide +kernel
theorem dL_law_263 : decode cL_law 263 = .ok (.aload_n 0, 1) := by decide +kernel
theorem dL_law_264 : decode cL_law 264 = .ok (.iload 4, 2) := by decide +kernel
theorem dL_law_266 : decode cL_law 266 = .ok (.iconst 4, 1) := by decide +kernel
theorem dL_law_267 : decode cL_law 267 = .ok (.iadd, 1) := by decide +kernel
theorem dL_law_268 : decode cL_law 268 = .ok (.iaload, 1) := by decide +kernel
theorem dL_law_269 : decode cL_law 269 = .ok (.aload_n 3, 1) := by decide +kernel
theorem dL_law_270 : decode cL_law 270 = .ok (.invokestatic 91, 3) := by decide +kernel
theorem dL_law_273 : decode cL_law 273 = .ok (.istore 5, 2) := by decide +kernel
theorem dL_law_275 : decode cL_law 275 = .ok (.aload_n 2, 1) := by decide +kernel
theorem dL_law_276 : decode cL_law 276 = .ok (.aload_n 0, 1) := by decide +kernel
theorem dL_law_277 : decode cL_law 277 = .ok (.iload 4, 2) := by decide +kernel
theorem dL_law_279 : decode cL_law 279 = .ok (.iconst 1, 1) := by decide +kernel
theorem dL_law_280 : decode cL_law 280 = .ok (.iadd, 1) := by decide +kernel
theorem dL_law_281 : decode cL_law 281 = .ok (.iaload, 1) := by decide +kernel
theorem dL_law_282 : decode cL_law 282 = .ok (.aload_n 0, 1) := by decide +kernel
theorem dL_law_283 : decode cL_law 283 = .ok (.iload 4, 2) := by decide +kernel
theorem dL_law_285 : decode cL_law 285 = .ok (.iconst 2, 1) := by decide +kernel
theorem dL_law_286 : decode cL_law 286 = .ok (.iadd, 1) := by decide +kernel
theorem dL_law_287 : decode cL_law 287 = .ok (.iaload, 1) := by decide +kernel
theorem dL_law_288 : decode cL_law 288 = .ok (.aload_n 0, 1) := by decide +kernel
theorem dL_law_289 : decode cL_law 289 = .ok (.iload 4, 2) := by decide +kernel
theorem dL_law_291 : decode cL_law 291 = .ok (.iconst 3, 1) := by decide +kernel
theorem dL_law_292 : decode cL_law 292 = .ok (.iadd, 1) := by decide +kernel
theorem dL_law_293 : decode cL_law 293 = .ok (.iaload, 1) := by decide +kernel
theorem dL_law_294 : decode cL_law 294 = .ok (.aload_n 0, 1) := by decide +kernel
theorem dL_law_295 : decode cL_law 295 = .ok (.iload 4, 2) := by decide +kernel
theorem dL_law_297 : decode cL_law 297 = .ok (.iconst 4, 1) := by decide +kernel
theorem dL_law_298 : decode cL_law 298 = .ok (.iadd, 1) := by decide +kernel
theorem dL_law_299 : decode cL_law 299 = .ok (.iaload, 1) := by decide +kernel
theorem dL_law_300 : decode cL_law 300 = .ok (.invokevirtual 94, 3) := by decide +kernel
theorem dL_law_303 : decode cL_law 303 = .ok (.istore 6, 2) := by decide +kernel
theorem dL_law_305 : decode cL_law 305 = .ok (.aload_n 2, 1) := by decide +kernel
theorem dL_law_306 : decode cL_law 306 = .ok (.invokevirtual 84, 3) := by decide +kernel
theorem dL_law_309 : decode cL_law 309 = .ok (.iload 5, 2) := by decide +kernel
theorem dL_law_311 : decode cL_law 311 = .ok (.if_icmp .eq 5, 3) := by decide +kernel
theorem dL_law_314 : decode cL_law 314 = .ok (.iconst 0, 1) := by decide +kernel
theorem dL_law_315 : decode cL_law 315 = .ok (.ireturn, 1) := by decide +kernel
theorem dL_law_316 : decode cL_law 316 = .ok (.iload 5, 2) := by decide +kernel
theorem dL_law_318 : decode cL_law 318 = .ok (.ifCond .ne 15, 3) := by decide +kernel
theorem dL_law_321 : decode cL_law 321 = .ok (.aload_n 3, 1) := by decide +kernel
theorem dL_law_322 : decode cL_law 322 = .ok (.iconst 0, 1) := by decide +kernel
theorem dL_law_323 : decode cL_law 323 = .ok (.laload, 1) := by decide +kernel
theorem dL_law_324 : decode cL_law 324 = .ok (.iload 6, 2) := by decide +kernel
theorem dL_law_326 : decode cL_law 326 = .ok (.i2l, 1) := by decide +kernel
theorem dL_law_327 : decode cL_law 327 = .ok (.lcmp, 1) := by decide +kernel
theorem dL_law_328 : decode cL_law 328 = .ok (.ifCond .eq 5, 3) := by decide +kernel
theorem dL_law_331 : decode cL_law 331 = .ok (.iconst 0, 1) := by decide +kernel
theorem dL_law_332 : decode cL_law 332 = .ok (.ireturn, 1) := by decide +kernel
theorem dL_law_333 : decode cL_law 333 = .ok (.goto 1083, 3) := by decide +kernel
theorem dL_law_336 : decode cL_law 336 = .ok (.aload_n 1, 1) := by decide +kernel
theorem dL_law_337 : decode cL_law 337 = .ok (.invokevirtual 95, 3) := by decide +kernel
theorem dL_law_340 : decode cL_law 340 = .ok (.aload_n 2, 1) := by decide +kernel
theorem dL_law_341 : decode cL_law 341 = .ok (.invokevirtual 98, 3) := by decide +kernel
theorem dL_law_344 : decode cL_law 344 = .ok (.if_icmp .eq 1072, 3) := by decide +kernel
theorem dL_law_347 : decode cL_law 347 = .ok (.iconst 0, 1) := by decide +kernel
theorem dL_law_348 : decode cL_law 348 = .ok (.ireturn, 1) := by decide +kernel
theorem dL_law_349 : decode cL_law 349 = .ok (.aload_n 1, 1) := by decide +kernel
theorem dL_law_350 : decode cL_law 350 = .ok (.aload_n 0, 1) := by decide +kernel
theorem dL_law_351 : decode cL_law 351 = .ok (.iload 4, 2) := by decide +kernel
theorem dL_law_353 : decode cL_law 353 = .ok (.iconst 1, 1) := by decide +kernel
theorem dL_law_354 : decode cL_law 354 = .ok (.iadd, 1) := by decide +kernel
theorem dL_law_355 : decode cL_law 355 = .ok (.iaload, 1) := by decide +kernel
theorem dL_law_356 : decode cL_law 356 = .ok (.aload_n 0, 1) := by decide +kernel
theorem dL_law_357 : decode cL_law 357 = .ok (.iload 4, 2) := by decide +kernel
theorem dL_law_359 : decode cL_law 359 = .ok (.iconst 2, 1) := by decide +kernel
theorem dL_law_360 : decode cL_law 360 = .ok (.iadd, 1) := by decide +kernel
theorem dL_law_361 : decode cL_law 361 = .ok (.iaload, 1) := by decide +kernel
theorem dL_law_362 : decode cL_law 362 = .ok (.aload_n 3, 1) := by decide +kernel
theorem dL_law_363 : decode cL_law 363 = .ok (.invokestatic 99, 3) := by decide +kernel
theorem dL_law_366 : decode cL_law 366 = .ok (.istore 5, 2) := by decide +kernel
theorem dL_law_368 : decode cL_law 368 = .ok (.aload_n 2, 1) := by decide +kernel
theorem dL_law_369 : decode cL_law 369 = .ok (.aload_n 0, 1) := by decide +kernel
theorem dL_law_370 : decode cL_law 370 = .ok (.iload 4, 2) := by decide +kernel
theorem dL_law_372 : decode cL_law 372 = .ok (.iconst 1, 1) := by decide +kernel
theorem dL_law_373 : decode cL_law 373 = .ok (.iadd, 1) := by decide +kernel
theorem dL_law_374 : decode cL_law 374 = .ok (.iaload, 1) := by decide +kernel
theorem dL_law_375 : decode cL_law 375 = .ok (.aload_n 0, 1) := by decide +kernel
theorem dL_law_376 : decode cL_law 376 = .ok (.iload 4, 2) := by decide +kernel
theorem dL_law_378 : decode cL_law 378 = .ok (.iconst 2, 1) := by decide +kernel
theorem dL_law_379 : decode cL_law 379 = .ok (.iadd, 1) := by decide +kernel
theorem dL_law_380 : decode cL_law 380 = .ok (.iaload, 1) := by decide +kernel
theorem dL_law_381 : decode cL_law 381 = .ok (.invokevirtual 101, 3) := by decide +kernel
theorem dL_law_384 : decode cL_law 384 = .ok (.istore 6, 2) := by decide +kernel
theorem dL_law_386 : decode cL_law 386 = .ok (.aload_n 2, 1) := by decide +kernel
theorem dL_law_387 : decode cL_law 387 = .ok (.invokevirtual 84, 3) := by decide +kernel
theorem dL_law_390 : decode cL_law 390 = .ok (.iload 5, 2) := by decide +kernel
theorem dL_law_392 : decode cL_law 392 = .ok (.if_icmp .eq 5, 3) := by decide +kernel
theorem dL_law_395 : decode cL_law 395 = .ok (.iconst 0, 1) := by decide +kernel
theorem dL_law_396 : decode cL_law 396 = .ok (.ireturn, 1) := by decide +kernel
theorem dL_law_397 : decode cL_law 397 = .ok (.iload 5, 2) := by decide +kernel
theorem dL_law_399 : decode cL_law 399 = .ok (.ifCond .ne 15, 3) := by decide +kernel
theorem dL_law_402 : decode cL_law 402 = .ok (.aload_n 3, 1) := by decide +kernel
theorem dL_law_403 : decode cL_law 403 = .ok (.iconst 0, 1) := by decide +kernel
theorem dL_law_404 : decode cL_law 404 = .ok (.laload, 1) := by decide +kernel
theorem dL_law_405 : decode cL_law 405 = .ok (.iload 6, 2) := by decide +kernel
theorem dL_law_407 : decode cL_law 407 = .ok (.i2l, 1) := by decide +kernel
theorem dL_law_408 : decode cL_law 408 = .ok (.lcmp, 1) := by decide +kernel
theorem dL_law_409 : decode cL_law 409 = .ok (.ifCond .eq 5, 3) := by decide +kernel
theorem dL_law_412 : decode cL_law 412 = .ok (.iconst 0, 1) := by decide +kernel
theorem dL_law_413 : decode cL_law 413 = .ok (.ireturn, 1) := by decide +kernel
theorem dL_law_414 : decode cL_law 414 = .ok (.goto 1002, 3) := by decide +kernel
theorem dL_law_417 : decode cL_law 417 = .ok (.aload_n 1, 1) := by decide +kernel
theorem dL_law_418 : decode cL_law 418 = .ok (.aload_n 0, 1) := by decide +kernel
theorem dL_law_419 : decode cL_law 419 = .ok (.iload 4, 2) := by decide +kernel
theorem dL_law_421 : decode cL_law 421 = .ok (.iconst 1, 1) := by decide +kernel
theorem dL_law_422 : decode cL_law 422 = .ok (.iadd, 1) := by decide +kernel
theorem dL_law_423 : decode cL_law 423 = .ok (.iaload, 1) := by decide +kernel
theorem dL_law_424 : decode cL_law 424 = .ok (.aload_n 0, 1) := by decide +kernel
theorem dL_law_425 : decode cL_law 425 = .ok (.iload 4, 2) := by decide +kernel
theorem dL_law_427 : decode cL_law 427 = .ok (.iconst 2, 1) := by decide +kernel
theorem dL_law_428 : decode cL_law 428 = .ok (.iadd, 1) := by decide +kernel
theorem dL_law_429 : decode cL_law 429 = .ok (.iaload, 1) := by decide +kernel
theorem dL_law_430 : decode cL_law 430 = .ok (.aload_n 3, 1) := by decide +kernel
theorem dL_law_431 : decode cL_law 431 = .ok (.invokestatic 102, 3) := by decide +kernel
theorem dL_law_434 : decode cL_law 434 = .ok (.istore 5, 2) := by decide +kernel
theorem dL_law_436 : decode cL_law 436 = .ok (.aload_n 2, 1) := by decide +kernel
theorem dL_law_437 : decode cL_law 437 = .ok (.aload_n 0, 1) := by decide +kernel
theorem dL_law_438 : decode cL_law 438 = .ok (.iload 4, 2) := by decide +kernel
theorem dL_law_440 : decode cL_law 440 = .ok (.iconst 1, 1) := by decide +kernel
theorem dL_law_441 : decode cL_law 441 = .ok (.iadd, 1) := by decide +kernel
theorem dL_law_442 : decode cL_law 442 = .ok (.iaload, 1) := by decide +kernel
theorem dL_law_443 : decode cL_law 443 = .ok (.aload_n 0, 1) := by decide +kernel
theorem dL_law_444 : decode cL_law 444 = .ok (.iload 4, 2) := by decide +kernel
theorem dL_law_446 : decode cL_law 446 = .ok (.iconst 2, 1) := by decide +kernel
theorem dL_law_447 : decode cL_law 447 = .ok (.iadd, 1) := by decide +kernel
theorem dL_law_448 : decode cL_law 448 = .ok (.iaload, 1) := by decide +kernel
