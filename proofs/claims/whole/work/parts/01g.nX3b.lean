theorem dX3_crossings_24 : decode cX3_crossings 24 = .ok (.invokevirtual 105, 3) := by decide +kernel
theorem dX3_crossings_27 : decode cX3_crossings 27 = .ok (.goto 4, 3) := by decide +kernel
theorem dX3_crossings_30 : decode cX3_crossings 30 = .ok (.iconst 0, 1) := by decide +kernel
theorem dX3_crossings_31 : decode cX3_crossings 31 = .ok (.ireturn, 1) := by decide +kernel
set_option maxRecDepth 20000 in
theorem ggX3_crossingsAnew_X3_areCables : GoodIn wsX3_crossingsAnew wsX3_areCables := goodIn_r _ [5, 6, 7, 8, 4, 9, 10, 11, 12, 13, 40, 41, 42, 43, 44, 45, 46, 47, 48, 49, 50, 51, 52, 53, 54, 55, 56, 57, 58, 59, 60, 61] (by decide +kernel) (by decide +kernel)
set_option maxRecDepth 20000 in
theorem gX3_crossingsAnew_X3_areCables : GoodIn wsX3_crossingsAnew (wsV RX3 123 RX3 yX3_areCables wsX3_areCables) := goodIn_app (goodIn_of _ (by decide +kernel)) ggX3_crossingsAnew_X3_areCables
set_option maxRecDepth 20000 in
theorem ggX3_crossingsAnew_X3_holds : GoodIn wsX3_crossingsAnew wsX3_holds := goodIn_r _ [17, 18, 40, 41, 42, 43, 44, 45, 46, 47, 48, 49, 50, 51, 52, 53, 54, 55, 56, 57, 58, 59, 60, 61] (by decide +kernel) (by decide +kernel)
set_option maxRecDepth 20000 in
theorem gX3_crossingsAnew_X3_holds : GoodIn wsX3_crossingsAnew (wsV RX3 84 RX3 yX3_holds wsX3_holds) := goodIn_app (goodIn_of _ (by decide +kernel)) ggX3_crossingsAnew_X3_holds
set_option maxRecDepth 20000 in
theorem ggX3_crossingsAnew_X3_crossed : GoodIn wsX3_crossingsAnew wsX3_crossed := goodIn_r _ [22, 23, 24, 25, 26, 4, 27, 28, 29, 30, 31, 32, 33, 34, 35, 36, 37, 38, 39, 11, 12, 13, 40, 41, 42, 43, 44, 45, 46, 47, 48, 49, 50, 51, 52, 53, 54, 55, 56, 57, 58, 59, 60, 61] (by decide +kernel) (by decide +kernel)
set_option maxRecDepth 20000 in
theorem gX3_crossingsAnew_X3_crossed : GoodIn wsX3_crossingsAnew (wsV RX3 105 RX3 yX3_crossed wsX3_crossed) := goodIn_app (goodIn_of _ (by decide +kernel)) ggX3_crossingsAnew_X3_crossed
theorem dX3_crossingsAnew_0 : decode cX3_crossingsAnew 0 = .ok (.aload_n 0, 1) := by decide +kernel
theorem dX3_crossingsAnew_1 : decode cX3_crossingsAnew 1 = .ok (.aload_n 0, 1) := by decide +kernel
theorem dX3_crossingsAnew_2 : decode cX3_crossingsAnew 2 = .ok (.iload_n 1, 1) := by decide +kernel
theorem dX3_crossingsAnew_3 : decode cX3_crossingsAnew 3 = .ok (.iload_n 2, 1) := by decide +kernel
theorem dX3_crossingsAnew_4 : decode cX3_crossingsAnew 4 = .ok (.invokevirtual 123, 3) := by decide +kernel
theorem dX3_crossingsAnew_7 : decode cX3_crossingsAnew 7 = .ok (.ifCond .eq 7, 3) := by decide +kernel
theorem dX3_crossingsAnew_10 : decode cX3_crossingsAnew 10 = .ok (.iconst 0, 1) := by decide +kernel
theorem dX3_crossingsAnew_11 : decode cX3_crossingsAnew 11 = .ok (.goto 4, 3) := by decide +kernel
theorem dX3_crossingsAnew_14 : decode cX3_crossingsAnew 14 = .ok (.iconst 1, 1) := by decide +kernel
theorem dX3_crossingsAnew_15 : decode cX3_crossingsAnew 15 = .ok (.invokevirtual 84, 3) := by decide +kernel
theorem dX3_crossingsAnew_18 : decode cX3_crossingsAnew 18 = .ok (.ifCond .eq 12, 3) := by decide +kernel
theorem dX3_crossingsAnew_21 : decode cX3_crossingsAnew 21 = .ok (.aload_n 0, 1) := by decide +kernel
theorem dX3_crossingsAnew_22 : decode cX3_crossingsAnew 22 = .ok (.iload_n 1, 1) := by decide +kernel
theorem dX3_crossingsAnew_23 : decode cX3_crossingsAnew 23 = .ok (.iload_n 2, 1) := by decide +kernel
theorem dX3_crossingsAnew_24 : decode cX3_crossingsAnew 24 = .ok (.invokevirtual 105, 3) := by decide +kernel
theorem dX3_crossingsAnew_27 : decode cX3_crossingsAnew 27 = .ok (.goto 4, 3) := by decide +kernel
theorem dX3_crossingsAnew_30 : decode cX3_crossingsAnew 30 = .ok (.iconst 0, 1) := by decide +kernel
theorem dX3_crossingsAnew_31 : decode cX3_crossingsAnew 31 = .ok (.ireturn, 1) := by decide +kernel
set_option maxRecDepth 20000 in
theorem ggX3_isWell_X3_areCables : GoodIn wsX3_isWell wsX3_areCables := goodIn_r _ [5, 6, 7, 8, 4, 9, 10, 11, 12, 13, 48, 49, 50, 51, 52, 53, 54, 55, 56, 57, 58, 59, 60, 61, 62, 63, 64, 65, 66, 67, 68, 69] (by decide +kernel) (by decide +kernel)
set_option maxRecDepth 20000 in
theorem gX3_isWell_X3_areCables : GoodIn wsX3_isWell (wsV RX3 123 RX3 yX3_areCables wsX3_areCables) := goodIn_app (goodIn_of _ (by decide +kernel)) ggX3_isWell_X3_areCables
set_option maxRecDepth 20000 in
theorem ggX3_isWell_X3_holds : GoodIn wsX3_isWell wsX3_holds := goodIn_r _ [17, 18, 48, 49, 50, 51, 52, 53, 54, 55, 56, 57, 58, 59, 60, 61, 62, 63, 64, 65, 66, 67, 68, 69] (by decide +kernel) (by decide +kernel)
set_option maxRecDepth 20000 in
theorem gX3_isWell_X3_holds : GoodIn wsX3_isWell (wsV RX3 84 RX3 yX3_holds wsX3_holds) := goodIn_app (goodIn_of _ (by decide +kernel)) ggX3_isWell_X3_holds
set_option maxRecDepth 20000 in
theorem ggX3_isWell_X3_isWellNow : GoodIn wsX3_isWell wsX3_isWellNow := goodIn_r _ [22, 23, 24, 25, 26, 4, 27, 28, 29, 30, 31, 32, 33, 34, 35, 36, 37, 38, 39, 11, 12, 13, 40, 41, 42, 43, 44, 45, 46, 47, 48, 49, 50, 51, 52, 53, 54, 55, 56, 57, 58, 59, 60, 61, 62, 63, 64, 65, 66, 67, 68, 69] (by decide +kernel) (by decide +kernel)
set_option maxRecDepth 20000 in
theorem gX3_isWell_X3_isWellNow : GoodIn wsX3_isWell (wsV RX3 116 RX3 yX3_isWellNow wsX3_isWellNow) := goodIn_app (goodIn_of _ (by decide +kernel)) ggX3_isWell_X3_isWellNow
theorem dX3_isWell_0 : decode cX3_isWell 0 = .ok (.aload_n 0, 1) := by decide +kernel
theorem dX3_isWell_1 : decode cX3_isWell 1 = .ok (.aload_n 0, 1) := by decide +kernel
theorem dX3_isWell_2 : decode cX3_isWell 2 = .ok (.iload_n 1, 1) := by decide +kernel
theorem dX3_isWell_3 : decode cX3_isWell 3 = .ok (.iload_n 2, 1) := by decide +kernel
theorem dX3_isWell_4 : decode cX3_isWell 4 = .ok (.invokevirtual 123, 3) := by decide +kernel
theorem dX3_isWell_7 : decode cX3_isWell 7 = .ok (.ifCond .eq 7, 3) := by decide +kernel
theorem dX3_isWell_10 : decode cX3_isWell 10 = .ok (.iconst 0, 1) := by decide +kernel
theorem dX3_isWell_11 : decode cX3_isWell 11 = .ok (.goto 4, 3) := by decide +kernel
theorem dX3_isWell_14 : decode cX3_isWell 14 = .ok (.iconst 1, 1) := by decide +kernel
theorem dX3_isWell_15 : decode cX3_isWell 15 = .ok (.invokevirtual 84, 3) := by decide +kernel
theorem dX3_isWell_18 : decode cX3_isWell 18 = .ok (.ifCond .eq 16, 3) := by decide +kernel
theorem dX3_isWell_21 : decode cX3_isWell 21 = .ok (.aload_n 0, 1) := by decide +kernel
theorem dX3_isWell_22 : decode cX3_isWell 22 = .ok (.iload_n 1, 1) := by decide +kernel
theorem dX3_isWell_23 : decode cX3_isWell 23 = .ok (.iload_n 2, 1) := by decide +kernel
theorem dX3_isWell_24 : decode cX3_isWell 24 = .ok (.invokevirtual 116, 3) := by decide +kernel
theorem dX3_isWell_27 : decode cX3_isWell 27 = .ok (.ifCond .eq 7, 3) := by decide +kernel
theorem dX3_isWell_30 : decode cX3_isWell 30 = .ok (.iconst 1, 1) := by decide +kernel
theorem dX3_isWell_31 : decode cX3_isWell 31 = .ok (.goto 4, 3) := by decide +kernel
theorem dX3_isWell_34 : decode cX3_isWell 34 = .ok (.iconst 0, 1) := by decide +kernel
theorem dX3_isWell_35 : decode cX3_isWell 35 = .ok (.ireturn, 1) := by decide +kernel
set_option maxRecDepth 20000 in
theorem ggX3_isBare_X3_crossed : GoodIn wsX3_isBare wsX3_crossed := goodIn_r _ [6, 7, 8, 9, 10, 5, 11, 12, 13, 14, 15, 16, 17, 18, 19, 20, 21, 22, 23, 24, 25, 26, 27, 28, 29, 30, 31, 32, 33, 34, 35, 36, 37, 38, 39, 40, 41, 42, 43, 44, 45, 46, 47, 48] (by decide +kernel) (by decide +kernel)
set_option maxRecDepth 20000 in
theorem gX3_isBare_X3_crossed : GoodIn wsX3_isBare (wsV RX3 105 RX3 yX3_crossed wsX3_crossed) := goodIn_app (goodIn_of _ (by decide +kernel)) ggX3_isBare_X3_crossed
theorem dX3_isBare_0 : decode cX3_isBare 0 = .ok (.aload_n 0, 1) := by decide +kernel
theorem dX3_isBare_1 : decode cX3_isBare 1 = .ok (.getfield 25, 3) := by decide +kernel
theorem dX3_isBare_4 : decode cX3_isBare 4 = .ok (.bipush 8, 2) := by decide +kernel
theorem dX3_isBare_6 : decode cX3_isBare 6 = .ok (.iload_n 1, 1) := by decide +kernel
theorem dX3_isBare_7 : decode cX3_isBare 7 = .ok (.imul, 1) := by decide +kernel
theorem dX3_isBare_8 : decode cX3_isBare 8 = .ok (.iload_n 2, 1) := by decide +kernel
theorem dX3_isBare_9 : decode cX3_isBare 9 = .ok (.iadd, 1) := by decide +kernel
theorem dX3_isBare_10 : decode cX3_isBare 10 = .ok (.baload, 1) := by decide +kernel
theorem dX3_isBare_11 : decode cX3_isBare 11 = .ok (.ifCond .ne 16, 3) := by decide +kernel
theorem dX3_isBare_14 : decode cX3_isBare 14 = .ok (.aload_n 0, 1) := by decide +kernel
theorem dX3_isBare_15 : decode cX3_isBare 15 = .ok (.iload_n 1, 1) := by decide +kernel
theorem dX3_isBare_16 : decode cX3_isBare 16 = .ok (.iload_n 2, 1) := by decide +kernel
theorem dX3_isBare_17 : decode cX3_isBare 17 = .ok (.invokevirtual 105, 3) := by decide +kernel
theorem dX3_isBare_20 : decode cX3_isBare 20 = .ok (.ifCond .le 7, 3) := by decide +kernel
theorem dX3_isBare_23 : decode cX3_isBare 23 = .ok (.iconst 1, 1) := by decide +kernel
theorem dX3_isBare_24 : decode cX3_isBare 24 = .ok (.goto 4, 3) := by decide +kernel
theorem dX3_isBare_27 : decode cX3_isBare 27 = .ok (.iconst 0, 1) := by decide +kernel
theorem dX3_isBare_28 : decode cX3_isBare 28 = .ok (.ireturn, 1) := by decide +kernel
set_option maxRecDepth 20000 in
theorem ggX3_bareNow_X3_isBare : GoodIn wsX3_bareNow wsX3_isBare := goodIn_r _ [6, 7, 8, 9, 10, 5, 11, 12, 13, 14, 15, 16, 17, 18, 19, 20, 21, 22, 23, 24, 25, 26, 27, 28, 29, 30, 31, 32, 33, 34, 35, 36, 37, 38, 39, 40, 41, 42, 43, 44, 45, 46, 47, 48, 49, 50, 51, 52, 53] (by decide +kernel) (by decide +kernel)
set_option maxRecDepth 20000 in
theorem gX3_bareNow_X3_isBare : GoodIn wsX3_bareNow (wsV RX3 126 RX3 yX3_isBare wsX3_isBare) := goodIn_app (goodIn_of _ (by decide +kernel)) ggX3_bareNow_X3_isBare
theorem dX3_bareNow_0 : decode cX3_bareNow 0 = .ok (.iconst 0, 1) := by decide +kernel
theorem dX3_bareNow_1 : decode cX3_bareNow 1 = .ok (.istore_n 1, 1) := by decide +kernel
theorem dX3_bareNow_2 : decode cX3_bareNow 2 = .ok (.iconst 0, 1) := by decide +kernel
theorem dX3_bareNow_3 : decode cX3_bareNow 3 = .ok (.istore_n 2, 1) := by decide +kernel
theorem dX3_bareNow_4 : decode cX3_bareNow 4 = .ok (.iload_n 2, 1) := by decide +kernel
theorem dX3_bareNow_5 : decode cX3_bareNow 5 = .ok (.aload_n 0, 1) := by decide +kernel
theorem dX3_bareNow_6 : decode cX3_bareNow 6 = .ok (.getfield 70, 3) := by decide +kernel
theorem dX3_bareNow_9 : decode cX3_bareNow 9 = .ok (.aload_n 0, 1) := by decide +kernel
theorem dX3_bareNow_10 : decode cX3_bareNow 10 = .ok (.getfield 70, 3) := by decide +kernel
theorem dX3_bareNow_13 : decode cX3_bareNow 13 = .ok (.imul, 1) := by decide +kernel
theorem dX3_bareNow_14 : decode cX3_bareNow 14 = .ok (.if_icmp .ge 51, 3) := by decide +kernel
theorem dX3_bareNow_17 : decode cX3_bareNow 17 = .ok (.iload_n 1, 1) := by decide +kernel
theorem dX3_bareNow_18 : decode cX3_bareNow 18 = .ok (.iload_n 2, 1) := by decide +kernel
theorem dX3_bareNow_19 : decode cX3_bareNow 19 = .ok (.aload_n 0, 1) := by decide +kernel
theorem dX3_bareNow_20 : decode cX3_bareNow 20 = .ok (.getfield 70, 3) := by decide +kernel
theorem dX3_bareNow_23 : decode cX3_bareNow 23 = .ok (.idiv, 1) := by decide +kernel
theorem dX3_bareNow_24 : decode cX3_bareNow 24 = .ok (.iload_n 2, 1) := by decide +kernel
theorem dX3_bareNow_25 : decode cX3_bareNow 25 = .ok (.aload_n 0, 1) := by decide +kernel
theorem dX3_bareNow_26 : decode cX3_bareNow 26 = .ok (.getfield 70, 3) := by decide +kernel
theorem dX3_bareNow_29 : decode cX3_bareNow 29 = .ok (.irem, 1) := by decide +kernel
theorem dX3_bareNow_30 : decode cX3_bareNow 30 = .ok (.if_icmp .ge 26, 3) := by decide +kernel
theorem dX3_bareNow_33 : decode cX3_bareNow 33 = .ok (.aload_n 0, 1) := by decide +kernel
theorem dX3_bareNow_34 : decode cX3_bareNow 34 = .ok (.iload_n 2, 1) := by decide +kernel
theorem dX3_bareNow_35 : decode cX3_bareNow 35 = .ok (.aload_n 0, 1) := by decide +kernel
theorem dX3_bareNow_36 : decode cX3_bareNow 36 = .ok (.getfield 70, 3) := by decide +kernel
theorem dX3_bareNow_39 : decode cX3_bareNow 39 = .ok (.idiv, 1) := by decide +kernel
theorem dX3_bareNow_40 : decode cX3_bareNow 40 = .ok (.iload_n 2, 1) := by decide +kernel
theorem dX3_bareNow_41 : decode cX3_bareNow 41 = .ok (.aload_n 0, 1) := by decide +kernel
theorem dX3_bareNow_42 : decode cX3_bareNow 42 = .ok (.getfield 70, 3) := by decide +kernel
theorem dX3_bareNow_45 : decode cX3_bareNow 45 = .ok (.irem, 1) := by decide +kernel
theorem dX3_bareNow_46 : decode cX3_bareNow 46 = .ok (.invokevirtual 126, 3) := by decide +kernel
theorem dX3_bareNow_49 : decode cX3_bareNow 49 = .ok (.ifCond .eq 7, 3) := by decide +kernel
theorem dX3_bareNow_52 : decode cX3_bareNow 52 = .ok (.iconst 1, 1) := by decide +kernel
theorem dX3_bareNow_53 : decode cX3_bareNow 53 = .ok (.goto 4, 3) := by decide +kernel
theorem dX3_bareNow_56 : decode cX3_bareNow 56 = .ok (.iconst 0, 1) := by decide +kernel
theorem dX3_bareNow_57 : decode cX3_bareNow 57 = .ok (.iadd, 1) := by decide +kernel
theorem dX3_bareNow_58 : decode cX3_bareNow 58 = .ok (.istore_n 1, 1) := by decide +kernel
theorem dX3_bareNow_59 : decode cX3_bareNow 59 = .ok (.iinc 2 1, 3) := by decide +kernel
theorem dX3_bareNow_62 : decode cX3_bareNow 62 = .ok (.goto (-58), 3) := by decide +kernel
theorem dX3_bareNow_65 : decode cX3_bareNow 65 = .ok (.iload_n 1, 1) := by decide +kernel
theorem dX3_bareNow_66 : decode cX3_bareNow 66 = .ok (.ireturn, 1) := by decide +kernel
set_option maxRecDepth 20000 in
theorem ggX3_agree_X3_areCables : GoodIn wsX3_agree wsX3_areCables := goodIn_r _ [6, 7, 8, 9, 5, 10, 11, 12, 13, 14, 61, 62, 63, 64, 65, 66, 67, 68, 69, 70, 71, 72, 73, 74, 75, 76, 77, 78, 79, 80, 81, 82] (by decide +kernel) (by decide +kernel)
set_option maxRecDepth 20000 in
theorem gX3_agree_X3_areCables : GoodIn wsX3_agree (wsV RX3 123 RX3 yX3_areCables wsX3_areCables) := goodIn_app (goodIn_of _ (by decide +kernel)) ggX3_agree_X3_areCables
set_option maxRecDepth 20000 in
theorem ggX3_agree_X3_isWellNow : GoodIn wsX3_agree wsX3_isWellNow := goodIn_r _ [18, 19, 20, 21, 22, 5, 23, 24, 25, 26, 27, 28, 29, 30, 31, 32, 33, 34, 35, 12, 13, 14, 36, 37, 38, 39, 40, 41, 42, 43, 61, 62, 63, 64, 65, 66, 67, 68, 69, 70, 71, 72, 73, 74, 75, 76, 77, 78, 79, 80, 81, 82] (by decide +kernel) (by decide +kernel)
set_option maxRecDepth 20000 in
theorem gX3_agree_X3_isWellNow : GoodIn wsX3_agree (wsV RX3 116 RX3 yX3_isWellNow wsX3_isWellNow) := goodIn_app (goodIn_of _ (by decide +kernel)) ggX3_agree_X3_isWellNow
set_option maxRecDepth 20000 in
theorem ggX3_agree_X3_holds : GoodIn wsX3_agree wsX3_holds := goodIn_r _ [47, 48, 61, 62, 63, 64, 65, 66, 67, 68, 69, 70, 71, 72, 73, 74, 75, 76, 77, 78, 79, 80, 81, 82] (by decide +kernel) (by decide +kernel)
set_option maxRecDepth 20000 in
theorem gX3_agree_X3_holds : GoodIn wsX3_agree (wsV RX3 84 RX3 yX3_holds wsX3_holds) := goodIn_app (goodIn_of _ (by decide +kernel)) ggX3_agree_X3_holds
set_option maxRecDepth 20000 in
theorem ggX3_agree_X3_agrees : GoodIn wsX3_agree wsX3_agrees := goodIn_r _ [52, 1, 61, 62, 63, 64, 65, 66, 67, 68, 69, 70, 71, 72, 73, 74, 75, 76, 77, 78, 79, 80, 81, 82] (by decide +kernel) (by decide +kernel)
set_option maxRecDepth 20000 in
theorem gX3_agree_X3_agrees : GoodIn wsX3_agree (wsV RX3 119 RX3 yX3_agrees wsX3_agrees) := goodIn_app (goodIn_of _ (by decide +kernel)) ggX3_agree_X3_agrees
set_option maxRecDepth 20000 in
theorem ggX3_agree_X3_bareNow : GoodIn wsX3_agree wsX3_bareNow := goodIn_r _ [56, 11, 57, 58, 59, 5, 60, 1, 40, 41, 42, 43, 19, 20, 21, 22, 23, 24, 25, 26, 27, 28, 29, 30, 31, 32, 33, 34, 35, 12, 13, 14, 61, 62, 63, 64, 65, 66, 67, 68, 69, 70, 71, 72, 73, 74, 75, 76, 77, 78, 79, 80, 81, 82] (by decide +kernel) (by decide +kernel)
set_option maxRecDepth 20000 in
theorem gX3_agree_X3_bareNow : GoodIn wsX3_agree (wsV RX3 129 RX3 yX3_bareNow wsX3_bareNow) := goodIn_app (goodIn_of _ (by decide +kernel)) ggX3_agree_X3_bareNow
theorem dX3_agree_0 : decode cX3_agree 0 = .ok (.aload_n 0, 1) := by decide +kernel
theorem dX3_agree_1 : decode cX3_agree 1 = .ok (.iload_n 1, 1) := by decide +kernel
theorem dX3_agree_2 : decode cX3_agree 2 = .ok (.iload_n 2, 1) := by decide +kernel
theorem dX3_agree_3 : decode cX3_agree 3 = .ok (.invokevirtual 123, 3) := by decide +kernel
theorem dX3_agree_6 : decode cX3_agree 6 = .ok (.istore_n 3, 1) := by decide +kernel
theorem dX3_agree_7 : decode cX3_agree 7 = .ok (.iload_n 3, 1) := by decide +kernel
theorem dX3_agree_8 : decode cX3_agree 8 = .ok (.ifCond .eq 30, 3) := by decide +kernel
theorem dX3_agree_11 : decode cX3_agree 11 = .ok (.aload_n 0, 1) := by decide +kernel
theorem dX3_agree_12 : decode cX3_agree 12 = .ok (.getfield 25, 3) := by decide +kernel
theorem dX3_agree_15 : decode cX3_agree 15 = .ok (.bipush 8, 2) := by decide +kernel
theorem dX3_agree_17 : decode cX3_agree 17 = .ok (.iload_n 1, 1) := by decide +kernel
theorem dX3_agree_18 : decode cX3_agree 18 = .ok (.imul, 1) := by decide +kernel
theorem dX3_agree_19 : decode cX3_agree 19 = .ok (.iload_n 2, 1) := by decide +kernel
theorem dX3_agree_20 : decode cX3_agree 20 = .ok (.iadd, 1) := by decide +kernel
theorem dX3_agree_21 : decode cX3_agree 21 = .ok (.baload, 1) := by decide +kernel
theorem dX3_agree_22 : decode cX3_agree 22 = .ok (.ifCond .ne 16, 3) := by decide +kernel
theorem dX3_agree_25 : decode cX3_agree 25 = .ok (.aload_n 0, 1) := by decide +kernel
theorem dX3_agree_26 : decode cX3_agree 26 = .ok (.iload_n 1, 1) := by decide +kernel
theorem dX3_agree_27 : decode cX3_agree 27 = .ok (.iload_n 2, 1) := by decide +kernel
theorem dX3_agree_28 : decode cX3_agree 28 = .ok (.invokevirtual 116, 3) := by decide +kernel
theorem dX3_agree_31 : decode cX3_agree 31 = .ok (.ifCond .eq 7, 3) := by decide +kernel
theorem dX3_agree_34 : decode cX3_agree 34 = .ok (.iconst 1, 1) := by decide +kernel
theorem dX3_agree_35 : decode cX3_agree 35 = .ok (.goto 4, 3) := by decide +kernel
theorem dX3_agree_38 : decode cX3_agree 38 = .ok (.iconst 0, 1) := by decide +kernel
theorem dX3_agree_39 : decode cX3_agree 39 = .ok (.istore 4, 2) := by decide +kernel
theorem dX3_agree_41 : decode cX3_agree 41 = .ok (.aload_n 0, 1) := by decide +kernel
theorem dX3_agree_42 : decode cX3_agree 42 = .ok (.iload_n 3, 1) := by decide +kernel
theorem dX3_agree_43 : decode cX3_agree 43 = .ok (.ifCond .ne 7, 3) := by decide +kernel
theorem dX3_agree_46 : decode cX3_agree 46 = .ok (.iconst 1, 1) := by decide +kernel
theorem dX3_agree_47 : decode cX3_agree 47 = .ok (.goto 13, 3) := by decide +kernel
theorem dX3_agree_50 : decode cX3_agree 50 = .ok (.iload 4, 2) := by decide +kernel
theorem dX3_agree_52 : decode cX3_agree 52 = .ok (.ifCond .eq 7, 3) := by decide +kernel
theorem dX3_agree_55 : decode cX3_agree 55 = .ok (.iconst 0, 1) := by decide +kernel
theorem dX3_agree_56 : decode cX3_agree 56 = .ok (.goto 4, 3) := by decide +kernel
theorem dX3_agree_59 : decode cX3_agree 59 = .ok (.iconst 2, 1) := by decide +kernel
theorem dX3_agree_60 : decode cX3_agree 60 = .ok (.invokevirtual 84, 3) := by decide +kernel
theorem dX3_agree_63 : decode cX3_agree 63 = .ok (.ifCond .ne 5, 3) := by decide +kernel
theorem dX3_agree_66 : decode cX3_agree 66 = .ok (.iconst 0, 1) := by decide +kernel
theorem dX3_agree_67 : decode cX3_agree 67 = .ok (.ireturn, 1) := by decide +kernel
theorem dX3_agree_68 : decode cX3_agree 68 = .ok (.aload_n 0, 1) := by decide +kernel
theorem dX3_agree_69 : decode cX3_agree 69 = .ok (.iload_n 1, 1) := by decide +kernel
theorem dX3_agree_70 : decode cX3_agree 70 = .ok (.iload_n 2, 1) := by decide +kernel
theorem dX3_agree_71 : decode cX3_agree 71 = .ok (.iconst 1, 1) := by decide +kernel
theorem dX3_agree_72 : decode cX3_agree 72 = .ok (.invokevirtual 119, 3) := by decide +kernel
theorem dX3_agree_75 : decode cX3_agree 75 = .ok (.aload_n 0, 1) := by decide +kernel
theorem dX3_agree_76 : decode cX3_agree 76 = .ok (.invokevirtual 129, 3) := by decide +kernel
theorem dX3_agree_79 : decode cX3_agree 79 = .ok (.ireturn, 1) := by decide +kernel
set_option maxRecDepth 20000 in
theorem ggX3_isAgreed_X3_areCables : GoodIn wsX3_isAgreed wsX3_areCables := goodIn_r _ [6, 7, 8, 9, 5, 10, 11, 12, 13, 14, 20, 21, 22, 23, 24, 25, 26, 27, 28, 29, 30, 31, 32, 33, 34, 35, 36, 37, 38, 39, 40, 41] (by decide +kernel) (by decide +kernel)
set_option maxRecDepth 20000 in
theorem gX3_isAgreed_X3_areCables : GoodIn wsX3_isAgreed (wsV RX3 123 RX3 yX3_areCables wsX3_areCables) := goodIn_app (goodIn_of _ (by decide +kernel)) ggX3_isAgreed_X3_areCables
set_option maxRecDepth 20000 in
theorem ggX3_isAgreed_X3_holds : GoodIn wsX3_isAgreed wsX3_holds := goodIn_r _ [18, 19, 20, 21, 22, 23, 24, 25, 26, 27, 28, 29, 30, 31, 32, 33, 34, 35, 36, 37, 38, 39, 40, 41] (by decide +kernel) (by decide +kernel)
set_option maxRecDepth 20000 in
theorem gX3_isAgreed_X3_holds : GoodIn wsX3_isAgreed (wsV RX3 84 RX3 yX3_holds wsX3_holds) := goodIn_app (goodIn_of _ (by decide +kernel)) ggX3_isAgreed_X3_holds
theorem dX3_isAgreed_0 : decode cX3_isAgreed 0 = .ok (.aload_n 0, 1) := by decide +kernel
theorem dX3_isAgreed_1 : decode cX3_isAgreed 1 = .ok (.aload_n 0, 1) := by decide +kernel
theorem dX3_isAgreed_2 : decode cX3_isAgreed 2 = .ok (.iload_n 1, 1) := by decide +kernel
theorem dX3_isAgreed_3 : decode cX3_isAgreed 3 = .ok (.iload_n 2, 1) := by decide +kernel
theorem dX3_isAgreed_4 : decode cX3_isAgreed 4 = .ok (.invokevirtual 123, 3) := by decide +kernel
theorem dX3_isAgreed_7 : decode cX3_isAgreed 7 = .ok (.ifCond .eq 7, 3) := by decide +kernel
theorem dX3_isAgreed_10 : decode cX3_isAgreed 10 = .ok (.iconst 0, 1) := by decide +kernel
theorem dX3_isAgreed_11 : decode cX3_isAgreed 11 = .ok (.goto 4, 3) := by decide +kernel
theorem dX3_isAgreed_14 : decode cX3_isAgreed 14 = .ok (.iconst 1, 1) := by decide +kernel
theorem dX3_isAgreed_15 : decode cX3_isAgreed 15 = .ok (.invokevirtual 84, 3) := by decide +kernel
theorem dX3_isAgreed_18 : decode cX3_isAgreed 18 = .ok (.ifCond .eq 21, 3) := by decide +kernel
theorem dX3_isAgreed_21 : decode cX3_isAgreed 21 = .ok (.aload_n 0, 1) := by decide +kernel
theorem dX3_isAgreed_22 : decode cX3_isAgreed 22 = .ok (.getfield 25, 3) := by decide +kernel
theorem dX3_isAgreed_25 : decode cX3_isAgreed 25 = .ok (.bipush 8, 2) := by decide +kernel
theorem dX3_isAgreed_27 : decode cX3_isAgreed 27 = .ok (.iload_n 1, 1) := by decide +kernel
theorem dX3_isAgreed_28 : decode cX3_isAgreed 28 = .ok (.imul, 1) := by decide +kernel
theorem dX3_isAgreed_29 : decode cX3_isAgreed 29 = .ok (.iload_n 2, 1) := by decide +kernel
theorem dX3_isAgreed_30 : decode cX3_isAgreed 30 = .ok (.iadd, 1) := by decide +kernel
theorem dX3_isAgreed_31 : decode cX3_isAgreed 31 = .ok (.baload, 1) := by decide +kernel
theorem dX3_isAgreed_32 : decode cX3_isAgreed 32 = .ok (.ifCond .eq 7, 3) := by decide +kernel
theorem dX3_isAgreed_35 : decode cX3_isAgreed 35 = .ok (.iconst 1, 1) := by decide +kernel
theorem dX3_isAgreed_36 : decode cX3_isAgreed 36 = .ok (.goto 4, 3) := by decide +kernel
theorem dX3_isAgreed_39 : decode cX3_isAgreed 39 = .ok (.iconst 0, 1) := by decide +kernel
theorem dX3_isAgreed_40 : decode cX3_isAgreed 40 = .ok (.ireturn, 1) := by decide +kernel
set_option maxRecDepth 20000 in
theorem ggX3_bare_X3_bareNow : GoodIn wsX3_bare wsX3_bareNow := goodIn_r _ [6, 7, 8, 9, 10, 5, 11, 12, 13, 14, 15, 16, 17, 18, 19, 20, 21, 22, 23, 24, 25, 26, 27, 28, 29, 30, 31, 32, 33, 34, 35, 36, 37, 38, 39, 40, 41, 42, 43, 44, 45, 46, 47, 48, 49, 50, 51, 52, 53, 54, 55, 56, 57, 58] (by decide +kernel) (by decide +kernel)
set_option maxRecDepth 20000 in
theorem gX3_bare_X3_bareNow : GoodIn wsX3_bare (wsV RX3 129 RX3 yX3_bareNow wsX3_bareNow) := goodIn_app (goodIn_of _ (by decide +kernel)) ggX3_bare_X3_bareNow
theorem dX3_bare_0 : decode cX3_bare 0 = .ok (.aload_n 0, 1) := by decide +kernel
theorem dX3_bare_1 : decode cX3_bare 1 = .ok (.iconst 0, 1) := by decide +kernel
theorem dX3_bare_2 : decode cX3_bare 2 = .ok (.putfield 62, 3) := by decide +kernel
theorem dX3_bare_5 : decode cX3_bare 5 = .ok (.aload_n 0, 1) := by decide +kernel
theorem dX3_bare_6 : decode cX3_bare 6 = .ok (.invokevirtual 129, 3) := by decide +kernel
theorem dX3_bare_9 : decode cX3_bare 9 = .ok (.ireturn, 1) := by decide +kernel
set_option maxRecDepth 20000 in
theorem ggX3_isGround_X3_in : GoodIn wsX3_isGround wsX3_in := goodIn_r _ [5] (by decide +kernel) (by decide +kernel)
set_option maxRecDepth 20000 in
theorem gX3_isGround_X3_in : GoodIn wsX3_isGround (va_wsS RX3 66 yX3_in wsX3_in) := goodIn_app (goodIn_of _ (by decide +kernel)) ggX3_isGround_X3_in
theorem dX3_isGround_0 : decode cX3_isGround 0 = .ok (.iload_n 1, 1) := by decide +kernel
theorem dX3_isGround_1 : decode cX3_isGround 1 = .ok (.iconst 0, 1) := by decide +kernel
theorem dX3_isGround_2 : decode cX3_isGround 2 = .ok (.aload_n 0, 1) := by decide +kernel
theorem dX3_isGround_3 : decode cX3_isGround 3 = .ok (.getfield 133, 3) := by decide +kernel
theorem dX3_isGround_6 : decode cX3_isGround 6 = .ok (.iconst 1, 1) := by decide +kernel
theorem dX3_isGround_7 : decode cX3_isGround 7 = .ok (.isub, 1) := by decide +kernel
theorem dX3_isGround_8 : decode cX3_isGround 8 = .ok (.invokestatic 66, 3) := by decide +kernel
theorem dX3_isGround_11 : decode cX3_isGround 11 = .ok (.ireturn, 1) := by decide +kernel
set_option maxRecDepth 20000 in
theorem ggX3_isMonth_X3_in : GoodIn wsX3_isMonth wsX3_in := goodIn_r _ [4] (by decide +kernel) (by decide +kernel)
set_option maxRecDepth 20000 in
theorem gX3_isMonth_X3_in : GoodIn wsX3_isMonth (va_wsS RX3 66 yX3_in wsX3_in) := goodIn_app (goodIn_of _ (by decide +kernel)) ggX3_isMonth_X3_in
theorem dX3_isMonth_0 : decode cX3_isMonth 0 = .ok (.iload_n 0, 1) := by decide +kernel
theorem dX3_isMonth_1 : decode cX3_isMonth 1 = .ok (.iconst 0, 1) := by decide +kernel
theorem dX3_isMonth_2 : decode cX3_isMonth 2 = .ok (.bipush 11, 2) := by decide +kernel
theorem dX3_isMonth_4 : decode cX3_isMonth 4 = .ok (.invokestatic 66, 3) := by decide +kernel
theorem dX3_isMonth_7 : decode cX3_isMonth 7 = .ok (.ireturn, 1) := by decide +kernel
set_option maxRecDepth 20000 in
theorem ggX3_ground_X3_isPlace : GoodIn wsX3_ground wsX3_isPlace := goodIn_r _ [11, 12, 13, 10, 14] (by decide +kernel) (by decide +kernel)
set_option maxRecDepth 20000 in
theorem gX3_ground_X3_isPlace : GoodIn wsX3_ground (va_wsS RX3 80 yX3_isPlace wsX3_isPlace) := goodIn_app (goodIn_of _ (by decide +kernel)) ggX3_ground_X3_isPlace
set_option maxRecDepth 20000 in
theorem ggX3_ground_X3_in : GoodIn wsX3_ground wsX3_in := goodIn_r _ [14] (by decide +kernel) (by decide +kernel)
set_option maxRecDepth 20000 in
theorem gX3_ground_X3_in : GoodIn wsX3_ground (va_wsS RX3 66 yX3_in wsX3_in) := goodIn_app (goodIn_of _ (by decide +kernel)) ggX3_ground_X3_in
set_option maxRecDepth 20000 in
theorem ggX3_ground_X3_isMonth : GoodIn wsX3_ground wsX3_isMonth := goodIn_r _ [17, 12, 13, 10, 14] (by decide +kernel) (by decide +kernel)
set_option maxRecDepth 20000 in
theorem gX3_ground_X3_isMonth : GoodIn wsX3_ground (va_wsS RX3 136 yX3_isMonth wsX3_isMonth) := goodIn_app (goodIn_of _ (by decide +kernel)) ggX3_ground_X3_isMonth
set_option maxRecDepth 20000 in
theorem ggX3_ground_X3_holds : GoodIn wsX3_ground wsX3_holds := goodIn_r _ [21, 22, 23, 24, 25, 26, 27, 28, 29, 30, 31, 32, 33, 34, 35, 36, 37, 38, 39, 40, 41, 42, 43, 44] (by decide +kernel) (by decide +kernel)
set_option maxRecDepth 20000 in
theorem gX3_ground_X3_holds : GoodIn wsX3_ground (wsV RX3 84 RX3 yX3_holds wsX3_holds) := goodIn_app (goodIn_of _ (by decide +kernel)) ggX3_ground_X3_holds
theorem dX3_ground_0 : decode cX3_ground 0 = .ok (.iload_n 1, 1) := by decide +kernel
theorem dX3_ground_1 : decode cX3_ground 1 = .ok (.iload_n 2, 1) := by decide +kernel
theorem dX3_ground_2 : decode cX3_ground 2 = .ok (.invokestatic 80, 3) := by decide +kernel
theorem dX3_ground_5 : decode cX3_ground 5 = .ok (.ifCond .eq 28, 3) := by decide +kernel
theorem dX3_ground_8 : decode cX3_ground 8 = .ok (.iload_n 3, 1) := by decide +kernel
theorem dX3_ground_9 : decode cX3_ground 9 = .ok (.iload_n 1, 1) := by decide +kernel
theorem dX3_ground_10 : decode cX3_ground 10 = .ok (.bipush 99, 2) := by decide +kernel
theorem dX3_ground_12 : decode cX3_ground 12 = .ok (.invokestatic 66, 3) := by decide +kernel
theorem dX3_ground_15 : decode cX3_ground 15 = .ok (.ifCond .eq 18, 3) := by decide +kernel
theorem dX3_ground_18 : decode cX3_ground 18 = .ok (.iload 4, 2) := by decide +kernel
theorem dX3_ground_20 : decode cX3_ground 20 = .ok (.iload_n 2, 1) := by decide +kernel
theorem dX3_ground_21 : decode cX3_ground 21 = .ok (.bipush 99, 2) := by decide +kernel
theorem dX3_ground_23 : decode cX3_ground 23 = .ok (.invokestatic 66, 3) := by decide +kernel
theorem dX3_ground_26 : decode cX3_ground 26 = .ok (.ifCond .eq 7, 3) := by decide +kernel
theorem dX3_ground_29 : decode cX3_ground 29 = .ok (.iconst 1, 1) := by decide +kernel
theorem dX3_ground_30 : decode cX3_ground 30 = .ok (.goto 4, 3) := by decide +kernel
theorem dX3_ground_33 : decode cX3_ground 33 = .ok (.iconst 0, 1) := by decide +kernel
theorem dX3_ground_34 : decode cX3_ground 34 = .ok (.istore 7, 2) := by decide +kernel
theorem dX3_ground_36 : decode cX3_ground 36 = .ok (.aload_n 0, 1) := by decide +kernel
theorem dX3_ground_37 : decode cX3_ground 37 = .ok (.iload 7, 2) := by decide +kernel
theorem dX3_ground_39 : decode cX3_ground 39 = .ok (.ifCond .eq 19, 3) := by decide +kernel
theorem dX3_ground_42 : decode cX3_ground 42 = .ok (.iload 5, 2) := by decide +kernel
theorem dX3_ground_44 : decode cX3_ground 44 = .ok (.invokestatic 136, 3) := by decide +kernel
theorem dX3_ground_47 : decode cX3_ground 47 = .ok (.ifCond .eq 11, 3) := by decide +kernel
theorem dX3_ground_50 : decode cX3_ground 50 = .ok (.iload 6, 2) := by decide +kernel
theorem dX3_ground_52 : decode cX3_ground 52 = .ok (.invokestatic 136, 3) := by decide +kernel
theorem dX3_ground_55 : decode cX3_ground 55 = .ok (.ifCond .ne 7, 3) := by decide +kernel
theorem dX3_ground_58 : decode cX3_ground 58 = .ok (.iconst 1, 1) := by decide +kernel
theorem dX3_ground_59 : decode cX3_ground 59 = .ok (.goto 16, 3) := by decide +kernel
theorem dX3_ground_62 : decode cX3_ground 62 = .ok (.aload_n 0, 1) := by decide +kernel
theorem dX3_ground_63 : decode cX3_ground 63 = .ok (.getfield 133, 3) := by decide +kernel
theorem dX3_ground_66 : decode cX3_ground 66 = .ok (.iconst 5, 1) := by decide +kernel
theorem dX3_ground_67 : decode cX3_ground 67 = .ok (.if_icmp .ne 7, 3) := by decide +kernel
theorem dX3_ground_70 : decode cX3_ground 70 = .ok (.iconst 2, 1) := by decide +kernel
theorem dX3_ground_71 : decode cX3_ground 71 = .ok (.goto 4, 3) := by decide +kernel
theorem dX3_ground_74 : decode cX3_ground 74 = .ok (.iconst 0, 1) := by decide +kernel
theorem dX3_ground_75 : decode cX3_ground 75 = .ok (.invokevirtual 84, 3) := by decide +kernel
theorem dX3_ground_78 : decode cX3_ground 78 = .ok (.ifCond .ne 5, 3) := by decide +kernel
theorem dX3_ground_81 : decode cX3_ground 81 = .ok (.iconst 0, 1) := by decide +kernel
theorem dX3_ground_82 : decode cX3_ground 82 = .ok (.ireturn, 1) := by decide +kernel
theorem dX3_ground_83 : decode cX3_ground 83 = .ok (.aload_n 0, 1) := by decide +kernel
theorem dX3_ground_84 : decode cX3_ground 84 = .ok (.getfield 29, 3) := by decide +kernel
theorem dX3_ground_87 : decode cX3_ground 87 = .ok (.aload_n 0, 1) := by decide +kernel
theorem dX3_ground_88 : decode cX3_ground 88 = .ok (.getfield 133, 3) := by decide +kernel
theorem dX3_ground_91 : decode cX3_ground 91 = .ok (.iload_n 1, 1) := by decide +kernel
theorem dX3_ground_92 : decode cX3_ground 92 = .ok (.iastore, 1) := by decide +kernel
theorem dX3_ground_93 : decode cX3_ground 93 = .ok (.aload_n 0, 1) := by decide +kernel
theorem dX3_ground_94 : decode cX3_ground 94 = .ok (.getfield 32, 3) := by decide +kernel
theorem dX3_ground_97 : decode cX3_ground 97 = .ok (.aload_n 0, 1) := by decide +kernel
theorem dX3_ground_98 : decode cX3_ground 98 = .ok (.getfield 133, 3) := by decide +kernel
theorem dX3_ground_101 : decode cX3_ground 101 = .ok (.iload_n 2, 1) := by decide +kernel
theorem dX3_ground_102 : decode cX3_ground 102 = .ok (.iastore, 1) := by decide +kernel
theorem dX3_ground_103 : decode cX3_ground 103 = .ok (.aload_n 0, 1) := by decide +kernel
theorem dX3_ground_104 : decode cX3_ground 104 = .ok (.getfield 35, 3) := by decide +kernel
theorem dX3_ground_107 : decode cX3_ground 107 = .ok (.aload_n 0, 1) := by decide +kernel
theorem dX3_ground_108 : decode cX3_ground 108 = .ok (.getfield 133, 3) := by decide +kernel
theorem dX3_ground_111 : decode cX3_ground 111 = .ok (.iload_n 3, 1) := by decide +kernel
theorem dX3_ground_112 : decode cX3_ground 112 = .ok (.iastore, 1) := by decide +kernel
theorem dX3_ground_113 : decode cX3_ground 113 = .ok (.aload_n 0, 1) := by decide +kernel
theorem dX3_ground_114 : decode cX3_ground 114 = .ok (.getfield 38, 3) := by decide +kernel
theorem dX3_ground_117 : decode cX3_ground 117 = .ok (.aload_n 0, 1) := by decide +kernel
theorem dX3_ground_118 : decode cX3_ground 118 = .ok (.getfield 133, 3) := by decide +kernel
theorem dX3_ground_121 : decode cX3_ground 121 = .ok (.iload 4, 2) := by decide +kernel
theorem dX3_ground_123 : decode cX3_ground 123 = .ok (.iastore, 1) := by decide +kernel
theorem dX3_ground_124 : decode cX3_ground 124 = .ok (.aload_n 0, 1) := by decide +kernel
theorem dX3_ground_125 : decode cX3_ground 125 = .ok (.getfield 41, 3) := by decide +kernel
theorem dX3_ground_128 : decode cX3_ground 128 = .ok (.aload_n 0, 1) := by decide +kernel
theorem dX3_ground_129 : decode cX3_ground 129 = .ok (.getfield 133, 3) := by decide +kernel
theorem dX3_ground_132 : decode cX3_ground 132 = .ok (.iload 5, 2) := by decide +kernel
theorem dX3_ground_134 : decode cX3_ground 134 = .ok (.iastore, 1) := by decide +kernel
theorem dX3_ground_135 : decode cX3_ground 135 = .ok (.aload_n 0, 1) := by decide +kernel
theorem dX3_ground_136 : decode cX3_ground 136 = .ok (.getfield 44, 3) := by decide +kernel
theorem dX3_ground_139 : decode cX3_ground 139 = .ok (.aload_n 0, 1) := by decide +kernel
theorem dX3_ground_140 : decode cX3_ground 140 = .ok (.getfield 133, 3) := by decide +kernel
theorem dX3_ground_143 : decode cX3_ground 143 = .ok (.iload 6, 2) := by decide +kernel
theorem dX3_ground_145 : decode cX3_ground 145 = .ok (.iastore, 1) := by decide +kernel
theorem dX3_ground_146 : decode cX3_ground 146 = .ok (.aload_n 0, 1) := by decide +kernel
theorem dX3_ground_147 : decode cX3_ground 147 = .ok (.dup, 1) := by decide +kernel
theorem dX3_ground_148 : decode cX3_ground 148 = .ok (.getfield 133, 3) := by decide +kernel
theorem dX3_ground_151 : decode cX3_ground 151 = .ok (.iconst 1, 1) := by decide +kernel
theorem dX3_ground_152 : decode cX3_ground 152 = .ok (.iadd, 1) := by decide +kernel
theorem dX3_ground_153 : decode cX3_ground 153 = .ok (.putfield 133, 3) := by decide +kernel
theorem dX3_ground_156 : decode cX3_ground 156 = .ok (.aload_n 0, 1) := by decide +kernel
theorem dX3_ground_157 : decode cX3_ground 157 = .ok (.getfield 133, 3) := by decide +kernel
theorem dX3_ground_160 : decode cX3_ground 160 = .ok (.iconst 1, 1) := by decide +kernel
theorem dX3_ground_161 : decode cX3_ground 161 = .ok (.isub, 1) := by decide +kernel
theorem dX3_ground_162 : decode cX3_ground 162 = .ok (.ireturn, 1) := by decide +kernel
theorem dX3_price_0 : decode cX3_price 0 = .ok (.aload_n 0, 1) := by decide +kernel
theorem dX3_price_1 : decode cX3_price 1 = .ok (.getfield 50, 3) := by decide +kernel
theorem dX3_price_4 : decode cX3_price 4 = .ok (.iload_n 1, 1) := by decide +kernel
theorem dX3_price_5 : decode cX3_price 5 = .ok (.iaload, 1) := by decide +kernel
theorem dX3_price_6 : decode cX3_price 6 = .ok (.ifCond .ne 7, 3) := by decide +kernel
theorem dX3_price_9 : decode cX3_price 9 = .ok (.iconst 0, 1) := by decide +kernel
theorem dX3_price_10 : decode cX3_price 10 = .ok (.goto 16, 3) := by decide +kernel
theorem dX3_price_13 : decode cX3_price 13 = .ok (.aload_n 0, 1) := by decide +kernel
theorem dX3_price_14 : decode cX3_price 14 = .ok (.getfield 47, 3) := by decide +kernel
theorem dX3_price_17 : decode cX3_price 17 = .ok (.iload_n 1, 1) := by decide +kernel
theorem dX3_price_18 : decode cX3_price 18 = .ok (.iaload, 1) := by decide +kernel
theorem dX3_price_19 : decode cX3_price 19 = .ok (.aload_n 0, 1) := by decide +kernel
theorem dX3_price_20 : decode cX3_price 20 = .ok (.getfield 50, 3) := by decide +kernel
theorem dX3_price_23 : decode cX3_price 23 = .ok (.iload_n 1, 1) := by decide +kernel
theorem dX3_price_24 : decode cX3_price 24 = .ok (.iaload, 1) := by decide +kernel
theorem dX3_price_25 : decode cX3_price 25 = .ok (.idiv, 1) := by decide +kernel
theorem dX3_price_26 : decode cX3_price 26 = .ok (.ireturn, 1) := by decide +kernel
set_option maxRecDepth 20000 in
theorem ggX3_tell_X3_isGround : GoodIn wsX3_tell wsX3_isGround := goodIn_r _ [8, 9, 10, 11, 7, 12, 22, 23, 24, 25, 26, 27, 28, 29, 30, 31, 32, 33, 34, 35, 36, 37, 38, 39, 40, 41, 42, 43] (by decide +kernel) (by decide +kernel)
set_option maxRecDepth 20000 in
theorem gX3_tell_X3_isGround : GoodIn wsX3_tell (wsV RX3 139 RX3 yX3_isGround wsX3_isGround) := goodIn_app (goodIn_of _ (by decide +kernel)) ggX3_tell_X3_isGround
set_option maxRecDepth 20000 in
theorem ggX3_tell_X3_in : GoodIn wsX3_tell wsX3_in := goodIn_r _ [12] (by decide +kernel) (by decide +kernel)
set_option maxRecDepth 20000 in
theorem gX3_tell_X3_in : GoodIn wsX3_tell (va_wsS RX3 66 yX3_in wsX3_in) := goodIn_app (goodIn_of _ (by decide +kernel)) ggX3_tell_X3_in
set_option maxRecDepth 20000 in
theorem ggX3_tell_X3_holds : GoodIn wsX3_tell wsX3_holds := goodIn_r _ [16, 17, 22, 23, 24, 25, 26, 27, 28, 29, 30, 31, 32, 33, 34, 35, 36, 37, 38, 39, 40, 41, 42, 43] (by decide +kernel) (by decide +kernel)
set_option maxRecDepth 20000 in
theorem gX3_tell_X3_holds : GoodIn wsX3_tell (wsV RX3 84 RX3 yX3_holds wsX3_holds) := goodIn_app (goodIn_of _ (by decide +kernel)) ggX3_tell_X3_holds
set_option maxRecDepth 20000 in
theorem ggX3_tell_X3_price : GoodIn wsX3_tell wsX3_price := goodIn_r _ [21, 2, 3, 22, 23, 24, 25, 26, 27, 28, 29, 30, 31, 32, 33, 34, 35, 36, 37, 38, 39, 40, 41, 42, 43] (by decide +kernel) (by decide +kernel)
set_option maxRecDepth 20000 in
theorem gX3_tell_X3_price : GoodIn wsX3_tell (wsV RX3 143 RX3 yX3_price wsX3_price) := goodIn_app (goodIn_of _ (by decide +kernel)) ggX3_tell_X3_price
theorem dX3_tell_0 : decode cX3_tell 0 = .ok (.aload_n 0, 1) := by decide +kernel
theorem dX3_tell_1 : decode cX3_tell 1 = .ok (.iload_n 1, 1) := by decide +kernel
theorem dX3_tell_2 : decode cX3_tell 2 = .ok (.invokevirtual 139, 3) := by decide +kernel
theorem dX3_tell_5 : decode cX3_tell 5 = .ok (.istore_n 3, 1) := by decide +kernel
theorem dX3_tell_6 : decode cX3_tell 6 = .ok (.aload_n 0, 1) := by decide +kernel
theorem dX3_tell_7 : decode cX3_tell 7 = .ok (.iload_n 3, 1) := by decide +kernel
theorem dX3_tell_8 : decode cX3_tell 8 = .ok (.ifCond .ne 7, 3) := by decide +kernel
theorem dX3_tell_11 : decode cX3_tell 11 = .ok (.iconst 1, 1) := by decide +kernel
theorem dX3_tell_12 : decode cX3_tell 12 = .ok (.goto 33, 3) := by decide +kernel
theorem dX3_tell_15 : decode cX3_tell 15 = .ok (.iload_n 2, 1) := by decide +kernel
theorem dX3_tell_16 : decode cX3_tell 16 = .ok (.iconst 0, 1) := by decide +kernel
theorem dX3_tell_17 : decode cX3_tell 17 = .ok (.ldc 142, 2) := by decide +kernel
theorem dX3_tell_19 : decode cX3_tell 19 = .ok (.invokestatic 66, 3) := by decide +kernel
theorem dX3_tell_22 : decode cX3_tell 22 = .ok (.ifCond .ne 7, 3) := by decide +kernel
theorem dX3_tell_25 : decode cX3_tell 25 = .ok (.iconst 2, 1) := by decide +kernel
theorem dX3_tell_26 : decode cX3_tell 26 = .ok (.goto 19, 3) := by decide +kernel
theorem dX3_tell_29 : decode cX3_tell 29 = .ok (.aload_n 0, 1) := by decide +kernel
theorem dX3_tell_30 : decode cX3_tell 30 = .ok (.getfield 50, 3) := by decide +kernel
theorem dX3_tell_33 : decode cX3_tell 33 = .ok (.iload_n 1, 1) := by decide +kernel
theorem dX3_tell_34 : decode cX3_tell 34 = .ok (.iaload, 1) := by decide +kernel
theorem dX3_tell_35 : decode cX3_tell 35 = .ok (.bipush 100, 2) := by decide +kernel
theorem dX3_tell_37 : decode cX3_tell 37 = .ok (.if_icmp .ne 7, 3) := by decide +kernel
theorem dX3_tell_40 : decode cX3_tell 40 = .ok (.iconst 3, 1) := by decide +kernel
theorem dX3_tell_41 : decode cX3_tell 41 = .ok (.goto 4, 3) := by decide +kernel
theorem dX3_tell_44 : decode cX3_tell 44 = .ok (.iconst 0, 1) := by decide +kernel
theorem dX3_tell_45 : decode cX3_tell 45 = .ok (.invokevirtual 84, 3) := by decide +kernel
theorem dX3_tell_48 : decode cX3_tell 48 = .ok (.ifCond .ne 5, 3) := by decide +kernel
theorem dX3_tell_51 : decode cX3_tell 51 = .ok (.iconst 0, 1) := by decide +kernel
theorem dX3_tell_52 : decode cX3_tell 52 = .ok (.ireturn, 1) := by decide +kernel
theorem dX3_tell_53 : decode cX3_tell 53 = .ok (.aload_n 0, 1) := by decide +kernel
theorem dX3_tell_54 : decode cX3_tell 54 = .ok (.getfield 47, 3) := by decide +kernel
theorem dX3_tell_57 : decode cX3_tell 57 = .ok (.iload_n 1, 1) := by decide +kernel
theorem dX3_tell_58 : decode cX3_tell 58 = .ok (.dup2, 1) := by decide +kernel
theorem dX3_tell_59 : decode cX3_tell 59 = .ok (.iaload, 1) := by decide +kernel
theorem dX3_tell_60 : decode cX3_tell 60 = .ok (.iload_n 2, 1) := by decide +kernel
theorem dX3_tell_61 : decode cX3_tell 61 = .ok (.iadd, 1) := by decide +kernel
theorem dX3_tell_62 : decode cX3_tell 62 = .ok (.iastore, 1) := by decide +kernel
theorem dX3_tell_63 : decode cX3_tell 63 = .ok (.aload_n 0, 1) := by decide +kernel
theorem dX3_tell_64 : decode cX3_tell 64 = .ok (.getfield 50, 3) := by decide +kernel
theorem dX3_tell_67 : decode cX3_tell 67 = .ok (.iload_n 1, 1) := by decide +kernel
theorem dX3_tell_68 : decode cX3_tell 68 = .ok (.dup2, 1) := by decide +kernel
theorem dX3_tell_69 : decode cX3_tell 69 = .ok (.iaload, 1) := by decide +kernel
theorem dX3_tell_70 : decode cX3_tell 70 = .ok (.iconst 1, 1) := by decide +kernel
theorem dX3_tell_71 : decode cX3_tell 71 = .ok (.iadd, 1) := by decide +kernel
theorem dX3_tell_72 : decode cX3_tell 72 = .ok (.iastore, 1) := by decide +kernel
theorem dX3_tell_73 : decode cX3_tell 73 = .ok (.aload_n 0, 1) := by decide +kernel
theorem dX3_tell_74 : decode cX3_tell 74 = .ok (.iload_n 1, 1) := by decide +kernel
theorem dX3_tell_75 : decode cX3_tell 75 = .ok (.invokevirtual 143, 3) := by decide +kernel
theorem dX3_tell_78 : decode cX3_tell 78 = .ok (.ireturn, 1) := by decide +kernel
set_option maxRecDepth 20000 in
theorem ggX3_isClosedNow_X3_in : GoodIn wsX3_isClosedNow wsX3_in := goodIn_r _ [6] (by decide +kernel) (by decide +kernel)
set_option maxRecDepth 20000 in
theorem gX3_isClosedNow_X3_in : GoodIn wsX3_isClosedNow (va_wsS RX3 66 yX3_in wsX3_in) := goodIn_app (goodIn_of _ (by decide +kernel)) ggX3_isClosedNow_X3_in
theorem dX3_isClosedNow_0 : decode cX3_isClosedNow 0 = .ok (.aload_n 0, 1) := by decide +kernel
theorem dX3_isClosedNow_1 : decode cX3_isClosedNow 1 = .ok (.getfield 41, 3) := by decide +kernel
theorem dX3_isClosedNow_4 : decode cX3_isClosedNow 4 = .ok (.iload_n 1, 1) := by decide +kernel
theorem dX3_isClosedNow_5 : decode cX3_isClosedNow 5 = .ok (.iaload, 1) := by decide +kernel
theorem dX3_isClosedNow_6 : decode cX3_isClosedNow 6 = .ok (.istore_n 3, 1) := by decide +kernel
theorem dX3_isClosedNow_7 : decode cX3_isClosedNow 7 = .ok (.aload_n 0, 1) := by decide +kernel
theorem dX3_isClosedNow_8 : decode cX3_isClosedNow 8 = .ok (.getfield 44, 3) := by decide +kernel
theorem dX3_isClosedNow_11 : decode cX3_isClosedNow 11 = .ok (.iload_n 1, 1) := by decide +kernel
theorem dX3_isClosedNow_12 : decode cX3_isClosedNow 12 = .ok (.iaload, 1) := by decide +kernel
theorem dX3_isClosedNow_13 : decode cX3_isClosedNow 13 = .ok (.istore 4, 2) := by decide +kernel
theorem dX3_isClosedNow_15 : decode cX3_isClosedNow 15 = .ok (.iload_n 3, 1) := by decide +kernel
theorem dX3_isClosedNow_16 : decode cX3_isClosedNow 16 = .ok (.iload 4, 2) := by decide +kernel
theorem dX3_isClosedNow_18 : decode cX3_isClosedNow 18 = .ok (.if_icmp .gt 13, 3) := by decide +kernel
theorem dX3_isClosedNow_21 : decode cX3_isClosedNow 21 = .ok (.iload_n 2, 1) := by decide +kernel
theorem dX3_isClosedNow_22 : decode cX3_isClosedNow 22 = .ok (.iload_n 3, 1) := by decide +kernel
theorem dX3_isClosedNow_23 : decode cX3_isClosedNow 23 = .ok (.iload 4, 2) := by decide +kernel
theorem dX3_isClosedNow_25 : decode cX3_isClosedNow 25 = .ok (.invokestatic 66, 3) := by decide +kernel
theorem dX3_isClosedNow_28 : decode cX3_isClosedNow 28 = .ok (.goto 19, 3) := by decide +kernel
theorem dX3_isClosedNow_31 : decode cX3_isClosedNow 31 = .ok (.iload_n 2, 1) := by decide +kernel
theorem dX3_isClosedNow_32 : decode cX3_isClosedNow 32 = .ok (.iload_n 3, 1) := by decide +kernel
theorem dX3_isClosedNow_33 : decode cX3_isClosedNow 33 = .ok (.if_icmp .ge 9, 3) := by decide +kernel
theorem dX3_isClosedNow_36 : decode cX3_isClosedNow 36 = .ok (.iload_n 2, 1) := by decide +kernel
theorem dX3_isClosedNow_37 : decode cX3_isClosedNow 37 = .ok (.iload 4, 2) := by decide +kernel
theorem dX3_isClosedNow_39 : decode cX3_isClosedNow 39 = .ok (.if_icmp .gt 7, 3) := by decide +kernel
theorem dX3_isClosedNow_42 : decode cX3_isClosedNow 42 = .ok (.iconst 1, 1) := by decide +kernel
theorem dX3_isClosedNow_43 : decode cX3_isClosedNow 43 = .ok (.goto 4, 3) := by decide +kernel
theorem dX3_isClosedNow_46 : decode cX3_isClosedNow 46 = .ok (.iconst 0, 1) := by decide +kernel
theorem dX3_isClosedNow_47 : decode cX3_isClosedNow 47 = .ok (.ireturn, 1) := by decide +kernel
set_option maxRecDepth 20000 in
theorem ggX3_isClosed_X3_isGround : GoodIn wsX3_isClosed wsX3_isGround := goodIn_r _ [5, 6, 7, 8, 4, 9, 24, 25, 26, 27, 28, 29, 30, 31, 32, 33, 34, 35, 36, 37, 38, 39, 40, 41, 42, 43, 44, 45] (by decide +kernel) (by decide +kernel)
set_option maxRecDepth 20000 in
theorem gX3_isClosed_X3_isGround : GoodIn wsX3_isClosed (wsV RX3 139 RX3 yX3_isGround wsX3_isGround) := goodIn_app (goodIn_of _ (by decide +kernel)) ggX3_isClosed_X3_isGround
set_option maxRecDepth 20000 in
theorem ggX3_isClosed_X3_isMonth : GoodIn wsX3_isClosed wsX3_isMonth := goodIn_r _ [12, 7, 8, 4, 9] (by decide +kernel) (by decide +kernel)
set_option maxRecDepth 20000 in
theorem gX3_isClosed_X3_isMonth : GoodIn wsX3_isClosed (va_wsS RX3 136 yX3_isMonth wsX3_isMonth) := goodIn_app (goodIn_of _ (by decide +kernel)) ggX3_isClosed_X3_isMonth
set_option maxRecDepth 20000 in
theorem ggX3_isClosed_X3_holds : GoodIn wsX3_isClosed wsX3_holds := goodIn_r _ [16, 17, 24, 25, 26, 27, 28, 29, 30, 31, 32, 33, 34, 35, 36, 37, 38, 39, 40, 41, 42, 43, 44, 45] (by decide +kernel) (by decide +kernel)
set_option maxRecDepth 20000 in
theorem gX3_isClosed_X3_holds : GoodIn wsX3_isClosed (wsV RX3 84 RX3 yX3_holds wsX3_holds) := goodIn_app (goodIn_of _ (by decide +kernel)) ggX3_isClosed_X3_holds
set_option maxRecDepth 20000 in
theorem ggX3_isClosed_X3_isClosedNow : GoodIn wsX3_isClosed wsX3_isClosedNow := goodIn_r _ [21, 22, 23, 7, 8, 4, 9, 24, 25, 26, 27, 28, 29, 30, 31, 32, 33, 34, 35, 36, 37, 38, 39, 40, 41, 42, 43, 44, 45] (by decide +kernel) (by decide +kernel)
set_option maxRecDepth 20000 in
theorem gX3_isClosed_X3_isClosedNow : GoodIn wsX3_isClosed (wsV RX3 147 RX3 yX3_isClosedNow wsX3_isClosedNow) := goodIn_app (goodIn_of _ (by decide +kernel)) ggX3_isClosed_X3_isClosedNow
theorem dX3_isClosed_0 : decode cX3_isClosed 0 = .ok (.aload_n 0, 1) := by decide +kernel
theorem dX3_isClosed_1 : decode cX3_isClosed 1 = .ok (.aload_n 0, 1) := by decide +kernel
theorem dX3_isClosed_2 : decode cX3_isClosed 2 = .ok (.iload_n 1, 1) := by decide +kernel
theorem dX3_isClosed_3 : decode cX3_isClosed 3 = .ok (.invokevirtual 139, 3) := by decide +kernel
theorem dX3_isClosed_6 : decode cX3_isClosed 6 = .ok (.ifCond .ne 7, 3) := by decide +kernel
theorem dX3_isClosed_9 : decode cX3_isClosed 9 = .ok (.iconst 1, 1) := by decide +kernel
theorem dX3_isClosed_10 : decode cX3_isClosed 10 = .ok (.goto 15, 3) := by decide +kernel
theorem dX3_isClosed_13 : decode cX3_isClosed 13 = .ok (.iload_n 2, 1) := by decide +kernel
theorem dX3_isClosed_14 : decode cX3_isClosed 14 = .ok (.invokestatic 136, 3) := by decide +kernel
theorem dX3_isClosed_17 : decode cX3_isClosed 17 = .ok (.ifCond .eq 7, 3) := by decide +kernel
theorem dX3_isClosed_20 : decode cX3_isClosed 20 = .ok (.iconst 0, 1) := by decide +kernel
theorem dX3_isClosed_21 : decode cX3_isClosed 21 = .ok (.goto 4, 3) := by decide +kernel
theorem dX3_isClosed_24 : decode cX3_isClosed 24 = .ok (.iconst 2, 1) := by decide +kernel
theorem dX3_isClosed_25 : decode cX3_isClosed 25 = .ok (.invokevirtual 84, 3) := by decide +kernel
theorem dX3_isClosed_28 : decode cX3_isClosed 28 = .ok (.ifCond .eq 16, 3) := by decide +kernel
theorem dX3_isClosed_31 : decode cX3_isClosed 31 = .ok (.aload_n 0, 1) := by decide +kernel
theorem dX3_isClosed_32 : decode cX3_isClosed 32 = .ok (.iload_n 1, 1) := by decide +kernel
theorem dX3_isClosed_33 : decode cX3_isClosed 33 = .ok (.iload_n 2, 1) := by decide +kernel
theorem dX3_isClosed_34 : decode cX3_isClosed 34 = .ok (.invokevirtual 147, 3) := by decide +kernel
theorem dX3_isClosed_37 : decode cX3_isClosed 37 = .ok (.ifCond .eq 7, 3) := by decide +kernel
theorem dX3_isClosed_40 : decode cX3_isClosed 40 = .ok (.iconst 1, 1) := by decide +kernel
theorem dX3_isClosed_41 : decode cX3_isClosed 41 = .ok (.goto 4, 3) := by decide +kernel
theorem dX3_isClosed_44 : decode cX3_isClosed 44 = .ok (.iconst 0, 1) := by decide +kernel
theorem dX3_isClosed_45 : decode cX3_isClosed 45 = .ok (.ireturn, 1) := by decide +kernel
set_option maxRecDepth 20000 in
theorem ggX3_doTouch_X3_in : GoodIn wsX3_doTouch wsX3_in := goodIn_r _ [10] (by decide +kernel) (by decide +kernel)
set_option maxRecDepth 20000 in
theorem gX3_doTouch_X3_in : GoodIn wsX3_doTouch (va_wsS RX3 66 yX3_in wsX3_in) := goodIn_app (goodIn_of _ (by decide +kernel)) ggX3_doTouch_X3_in
set_option maxRecDepth 20000 in
theorem ggX3_doTouch_X3_meets : GoodIn wsX3_doTouch wsX3_meets := goodIn_r _ [14, 5, 6, 15, 16, 9, 17, 18, 19, 20, 7, 8, 10, 21, 22, 23, 24, 25, 26, 27, 28, 29, 30, 31, 32, 33, 34, 35, 36, 37, 38, 39, 40, 41, 42] (by decide +kernel) (by decide +kernel)
set_option maxRecDepth 20000 in
theorem gX3_doTouch_X3_meets : GoodIn wsX3_doTouch (wsV RX3 95 RX3 yX3_meets wsX3_meets) := goodIn_app (goodIn_of _ (by decide +kernel)) ggX3_doTouch_X3_meets
theorem dX3_doTouch_0 : decode cX3_doTouch 0 = .ok (.aload_n 0, 1) := by decide +kernel
theorem dX3_doTouch_1 : decode cX3_doTouch 1 = .ok (.getfield 29, 3) := by decide +kernel
theorem dX3_doTouch_4 : decode cX3_doTouch 4 = .ok (.iload_n 2, 1) := by decide +kernel
theorem dX3_doTouch_5 : decode cX3_doTouch 5 = .ok (.iaload, 1) := by decide +kernel
theorem dX3_doTouch_6 : decode cX3_doTouch 6 = .ok (.istore_n 3, 1) := by decide +kernel
theorem dX3_doTouch_7 : decode cX3_doTouch 7 = .ok (.aload_n 0, 1) := by decide +kernel
theorem dX3_doTouch_8 : decode cX3_doTouch 8 = .ok (.getfield 32, 3) := by decide +kernel
theorem dX3_doTouch_11 : decode cX3_doTouch 11 = .ok (.iload_n 2, 1) := by decide +kernel
theorem dX3_doTouch_12 : decode cX3_doTouch 12 = .ok (.iaload, 1) := by decide +kernel
theorem dX3_doTouch_13 : decode cX3_doTouch 13 = .ok (.istore 4, 2) := by decide +kernel
theorem dX3_doTouch_15 : decode cX3_doTouch 15 = .ok (.aload_n 0, 1) := by decide +kernel
theorem dX3_doTouch_16 : decode cX3_doTouch 16 = .ok (.getfield 35, 3) := by decide +kernel
theorem dX3_doTouch_19 : decode cX3_doTouch 19 = .ok (.iload_n 2, 1) := by decide +kernel
theorem dX3_doTouch_20 : decode cX3_doTouch 20 = .ok (.iaload, 1) := by decide +kernel
theorem dX3_doTouch_21 : decode cX3_doTouch 21 = .ok (.istore 5, 2) := by decide +kernel
theorem dX3_doTouch_23 : decode cX3_doTouch 23 = .ok (.aload_n 0, 1) := by decide +kernel
theorem dX3_doTouch_24 : decode cX3_doTouch 24 = .ok (.getfield 38, 3) := by decide +kernel
theorem dX3_doTouch_27 : decode cX3_doTouch 27 = .ok (.iload_n 2, 1) := by decide +kernel
theorem dX3_doTouch_28 : decode cX3_doTouch 28 = .ok (.iaload, 1) := by decide +kernel
theorem dX3_doTouch_29 : decode cX3_doTouch 29 = .ok (.istore 6, 2) := by decide +kernel
theorem dX3_doTouch_31 : decode cX3_doTouch 31 = .ok (.aload_n 0, 1) := by decide +kernel
theorem dX3_doTouch_32 : decode cX3_doTouch 32 = .ok (.getfield 19, 3) := by decide +kernel
theorem dX3_doTouch_35 : decode cX3_doTouch 35 = .ok (.iload_n 1, 1) := by decide +kernel
theorem dX3_doTouch_36 : decode cX3_doTouch 36 = .ok (.iaload, 1) := by decide +kernel
theorem dX3_doTouch_37 : decode cX3_doTouch 37 = .ok (.iload_n 3, 1) := by decide +kernel
theorem dX3_doTouch_38 : decode cX3_doTouch 38 = .ok (.iload 5, 2) := by decide +kernel
theorem dX3_doTouch_40 : decode cX3_doTouch 40 = .ok (.invokestatic 66, 3) := by decide +kernel
theorem dX3_doTouch_43 : decode cX3_doTouch 43 = .ok (.ifCond .eq 23, 3) := by decide +kernel
theorem dX3_doTouch_46 : decode cX3_doTouch 46 = .ok (.aload_n 0, 1) := by decide +kernel
theorem dX3_doTouch_47 : decode cX3_doTouch 47 = .ok (.getfield 22, 3) := by decide +kernel
theorem dX3_doTouch_50 : decode cX3_doTouch 50 = .ok (.iload_n 1, 1) := by decide +kernel
theorem dX3_doTouch_51 : decode cX3_doTouch 51 = .ok (.iaload, 1) := by decide +kernel
theorem dX3_doTouch_52 : decode cX3_doTouch 52 = .ok (.iload 4, 2) := by decide +kernel
theorem dX3_doTouch_54 : decode cX3_doTouch 54 = .ok (.iload 6, 2) := by decide +kernel
theorem dX3_doTouch_56 : decode cX3_doTouch 56 = .ok (.invokestatic 66, 3) := by decide +kernel
theorem dX3_doTouch_59 : decode cX3_doTouch 59 = .ok (.ifCond .eq 7, 3) := by decide +kernel
theorem dX3_doTouch_62 : decode cX3_doTouch 62 = .ok (.iconst 1, 1) := by decide +kernel
theorem dX3_doTouch_63 : decode cX3_doTouch 63 = .ok (.goto 4, 3) := by decide +kernel
theorem dX3_doTouch_66 : decode cX3_doTouch 66 = .ok (.iconst 0, 1) := by decide +kernel
theorem dX3_doTouch_67 : decode cX3_doTouch 67 = .ok (.istore 7, 2) := by decide +kernel
theorem dX3_doTouch_69 : decode cX3_doTouch 69 = .ok (.aload_n 0, 1) := by decide +kernel
theorem dX3_doTouch_70 : decode cX3_doTouch 70 = .ok (.iload_n 1, 1) := by decide +kernel
theorem dX3_doTouch_71 : decode cX3_doTouch 71 = .ok (.iload_n 3, 1) := by decide +kernel
theorem dX3_doTouch_72 : decode cX3_doTouch 72 = .ok (.iload 4, 2) := by decide +kernel
theorem dX3_doTouch_74 : decode cX3_doTouch 74 = .ok (.iload 5, 2) := by decide +kernel
theorem dX3_doTouch_76 : decode cX3_doTouch 76 = .ok (.iload 4, 2) := by decide +kernel
theorem dX3_doTouch_78 : decode cX3_doTouch 78 = .ok (.invokevirtual 95, 3) := by decide +kernel
theorem dX3_doTouch_81 : decode cX3_doTouch 81 = .ok (.ifCond .ne 18, 3) := by decide +kernel
theorem dX3_doTouch_84 : decode cX3_doTouch 84 = .ok (.aload_n 0, 1) := by decide +kernel
theorem dX3_doTouch_85 : decode cX3_doTouch 85 = .ok (.iload_n 1, 1) := by decide +kernel
theorem dX3_doTouch_86 : decode cX3_doTouch 86 = .ok (.iload_n 3, 1) := by decide +kernel
theorem dX3_doTouch_87 : decode cX3_doTouch 87 = .ok (.iload 6, 2) := by decide +kernel
theorem dX3_doTouch_89 : decode cX3_doTouch 89 = .ok (.iload 5, 2) := by decide +kernel
theorem dX3_doTouch_91 : decode cX3_doTouch 91 = .ok (.iload 6, 2) := by decide +kernel
theorem dX3_doTouch_93 : decode cX3_doTouch 93 = .ok (.invokevirtual 95, 3) := by decide +kernel
theorem dX3_doTouch_96 : decode cX3_doTouch 96 = .ok (.ifCond .eq 7, 3) := by decide +kernel
theorem dX3_doTouch_99 : decode cX3_doTouch 99 = .ok (.iconst 1, 1) := by decide +kernel
theorem dX3_doTouch_100 : decode cX3_doTouch 100 = .ok (.goto 4, 3) := by decide +kernel
theorem dX3_doTouch_103 : decode cX3_doTouch 103 = .ok (.iconst 0, 1) := by decide +kernel
theorem dX3_doTouch_104 : decode cX3_doTouch 104 = .ok (.istore 8, 2) := by decide +kernel
theorem dX3_doTouch_106 : decode cX3_doTouch 106 = .ok (.iload 7, 2) := by decide +kernel
theorem dX3_doTouch_108 : decode cX3_doTouch 108 = .ok (.ifCond .ne 38, 3) := by decide +kernel
theorem dX3_doTouch_111 : decode cX3_doTouch 111 = .ok (.iload 8, 2) := by decide +kernel
theorem dX3_doTouch_113 : decode cX3_doTouch 113 = .ok (.ifCond .ne 33, 3) := by decide +kernel
theorem dX3_doTouch_116 : decode cX3_doTouch 116 = .ok (.aload_n 0, 1) := by decide +kernel
theorem dX3_doTouch_117 : decode cX3_doTouch 117 = .ok (.iload_n 1, 1) := by decide +kernel
theorem dX3_doTouch_118 : decode cX3_doTouch 118 = .ok (.iload_n 3, 1) := by decide +kernel
theorem dX3_doTouch_119 : decode cX3_doTouch 119 = .ok (.iload 4, 2) := by decide +kernel
theorem dX3_doTouch_121 : decode cX3_doTouch 121 = .ok (.iload_n 3, 1) := by decide +kernel
theorem dX3_doTouch_122 : decode cX3_doTouch 122 = .ok (.iload 6, 2) := by decide +kernel
theorem dX3_doTouch_124 : decode cX3_doTouch 124 = .ok (.invokevirtual 95, 3) := by decide +kernel
theorem dX3_doTouch_127 : decode cX3_doTouch 127 = .ok (.ifCond .ne 19, 3) := by decide +kernel
theorem dX3_doTouch_130 : decode cX3_doTouch 130 = .ok (.aload_n 0, 1) := by decide +kernel
theorem dX3_doTouch_131 : decode cX3_doTouch 131 = .ok (.iload_n 1, 1) := by decide +kernel
theorem dX3_doTouch_132 : decode cX3_doTouch 132 = .ok (.iload 5, 2) := by decide +kernel
theorem dX3_doTouch_134 : decode cX3_doTouch 134 = .ok (.iload 4, 2) := by decide +kernel
theorem dX3_doTouch_136 : decode cX3_doTouch 136 = .ok (.iload 5, 2) := by decide +kernel
theorem dX3_doTouch_138 : decode cX3_doTouch 138 = .ok (.iload 6, 2) := by decide +kernel
theorem dX3_doTouch_140 : decode cX3_doTouch 140 = .ok (.invokevirtual 95, 3) := by decide +kernel
theorem dX3_doTouch_143 : decode cX3_doTouch 143 = .ok (.ifCond .eq 7, 3) := by decide +kernel
theorem dX3_doTouch_146 : decode cX3_doTouch 146 = .ok (.iconst 1, 1) := by decide +kernel
theorem dX3_doTouch_147 : decode cX3_doTouch 147 = .ok (.goto 4, 3) := by decide +kernel
theorem dX3_doTouch_150 : decode cX3_doTouch 150 = .ok (.iconst 0, 1) := by decide +kernel
theorem dX3_doTouch_151 : decode cX3_doTouch 151 = .ok (.ireturn, 1) := by decide +kernel
set_option maxRecDepth 20000 in
theorem ggX3_touches_X3_isPiece : GoodIn wsX3_touches wsX3_isPiece := goodIn_r _ [5, 6, 7, 8, 9, 4, 10, 11, 12, 13, 14, 45, 46, 47, 48, 49, 50, 51, 52, 53, 54, 55, 56, 57, 58, 59, 60, 61, 62, 63, 64, 65, 66] (by decide +kernel) (by decide +kernel)
set_option maxRecDepth 20000 in
theorem gX3_touches_X3_isPiece : GoodIn wsX3_touches (wsV RX3 150 RX3 yX3_isPiece wsX3_isPiece) := goodIn_app (goodIn_of _ (by decide +kernel)) ggX3_touches_X3_isPiece
set_option maxRecDepth 20000 in
theorem ggX3_touches_X3_isGround : GoodIn wsX3_touches wsX3_isGround := goodIn_r _ [18, 19, 12, 13, 4, 14, 45, 46, 47, 48, 49, 50, 51, 52, 53, 54, 55, 56, 57, 58, 59, 60, 61, 62, 63, 64, 65, 66] (by decide +kernel) (by decide +kernel)
set_option maxRecDepth 20000 in
theorem gX3_touches_X3_isGround : GoodIn wsX3_touches (wsV RX3 139 RX3 yX3_isGround wsX3_isGround) := goodIn_app (goodIn_of _ (by decide +kernel)) ggX3_touches_X3_isGround
set_option maxRecDepth 20000 in
theorem ggX3_touches_X3_holds : GoodIn wsX3_touches wsX3_holds := goodIn_r _ [23, 24, 45, 46, 47, 48, 49, 50, 51, 52, 53, 54, 55, 56, 57, 58, 59, 60, 61, 62, 63, 64, 65, 66] (by decide +kernel) (by decide +kernel)
set_option maxRecDepth 20000 in
theorem gX3_touches_X3_holds : GoodIn wsX3_touches (wsV RX3 84 RX3 yX3_holds wsX3_holds) := goodIn_app (goodIn_of _ (by decide +kernel)) ggX3_touches_X3_holds
set_option maxRecDepth 20000 in
theorem ggX3_touches_X3_doTouch : GoodIn wsX3_touches wsX3_doTouch := goodIn_r _ [28, 29, 30, 31, 32, 33, 34, 12, 13, 4, 14, 35, 36, 37, 38, 39, 40, 41, 42, 43, 44, 45, 46, 47, 48, 49, 50, 51, 52, 53, 54, 55, 56, 57, 58, 59, 60, 61, 62, 63, 64, 65, 66] (by decide +kernel) (by decide +kernel)
set_option maxRecDepth 20000 in
theorem gX3_touches_X3_doTouch : GoodIn wsX3_touches (wsV RX3 153 RX3 yX3_doTouch wsX3_doTouch) := goodIn_app (goodIn_of _ (by decide +kernel)) ggX3_touches_X3_doTouch
theorem dX3_touches_0 : decode cX3_touches 0 = .ok (.aload_n 0, 1) := by decide +kernel
theorem dX3_touches_1 : decode cX3_touches 1 = .ok (.aload_n 0, 1) := by decide +kernel
theorem dX3_touches_2 : decode cX3_touches 2 = .ok (.iload_n 1, 1) := by decide +kernel
theorem dX3_touches_3 : decode cX3_touches 3 = .ok (.iload_n 2, 1) := by decide +kernel
theorem dX3_touches_4 : decode cX3_touches 4 = .ok (.invokevirtual 150, 3) := by decide +kernel
theorem dX3_touches_7 : decode cX3_touches 7 = .ok (.ifCond .eq 15, 3) := by decide +kernel
theorem dX3_touches_10 : decode cX3_touches 10 = .ok (.aload_n 0, 1) := by decide +kernel
theorem dX3_touches_11 : decode cX3_touches 11 = .ok (.iload_n 3, 1) := by decide +kernel
theorem dX3_touches_12 : decode cX3_touches 12 = .ok (.invokevirtual 139, 3) := by decide +kernel
theorem dX3_touches_15 : decode cX3_touches 15 = .ok (.ifCond .eq 7, 3) := by decide +kernel
theorem dX3_touches_18 : decode cX3_touches 18 = .ok (.iconst 0, 1) := by decide +kernel
theorem dX3_touches_19 : decode cX3_touches 19 = .ok (.goto 4, 3) := by decide +kernel
theorem dX3_touches_22 : decode cX3_touches 22 = .ok (.iconst 1, 1) := by decide +kernel
theorem dX3_touches_23 : decode cX3_touches 23 = .ok (.invokevirtual 84, 3) := by decide +kernel
theorem dX3_touches_26 : decode cX3_touches 26 = .ok (.ifCond .eq 21, 3) := by decide +kernel
theorem dX3_touches_29 : decode cX3_touches 29 = .ok (.aload_n 0, 1) := by decide +kernel
theorem dX3_touches_30 : decode cX3_touches 30 = .ok (.bipush 8, 2) := by decide +kernel
theorem dX3_touches_32 : decode cX3_touches 32 = .ok (.iload_n 1, 1) := by decide +kernel
theorem dX3_touches_33 : decode cX3_touches 33 = .ok (.imul, 1) := by decide +kernel
theorem dX3_touches_34 : decode cX3_touches 34 = .ok (.iload_n 2, 1) := by decide +kernel
theorem dX3_touches_35 : decode cX3_touches 35 = .ok (.iadd, 1) := by decide +kernel
theorem dX3_touches_36 : decode cX3_touches 36 = .ok (.iload_n 3, 1) := by decide +kernel
theorem dX3_touches_37 : decode cX3_touches 37 = .ok (.invokevirtual 153, 3) := by decide +kernel
theorem dX3_touches_40 : decode cX3_touches 40 = .ok (.ifCond .eq 7, 3) := by decide +kernel
theorem dX3_touches_43 : decode cX3_touches 43 = .ok (.iconst 1, 1) := by decide +kernel
theorem dX3_touches_44 : decode cX3_touches 44 = .ok (.goto 4, 3) := by decide +kernel
theorem dX3_touches_47 : decode cX3_touches 47 = .ok (.iconst 0, 1) := by decide +kernel
theorem dX3_touches_48 : decode cX3_touches 48 = .ok (.ireturn, 1) := by decide +kernel
set_option maxRecDepth 20000 in
theorem ggX3_lifts_X3_doCross : GoodIn wsX3_lifts wsX3_doCross := goodIn_r _ [9, 10, 11, 12, 13, 14, 8, 15, 16, 17, 18, 19, 20, 21, 22, 23, 24, 25, 26, 27, 28, 29, 30, 31, 32, 33, 34, 35, 36, 37, 38, 39, 40, 41, 42, 43, 44, 45, 46] (by decide +kernel) (by decide +kernel)
set_option maxRecDepth 20000 in
theorem gX3_lifts_X3_doCross : GoodIn wsX3_lifts (wsV RX3 99 RX3 yX3_doCross wsX3_doCross) := goodIn_app (goodIn_of _ (by decide +kernel)) ggX3_lifts_X3_doCross
theorem dX3_lifts_0 : decode cX3_lifts 0 = .ok (.iconst 0, 1) := by decide +kernel
theorem dX3_lifts_1 : decode cX3_lifts 1 = .ok (.istore_n 2, 1) := by decide +kernel
theorem dX3_lifts_2 : decode cX3_lifts 2 = .ok (.iload_n 2, 1) := by decide +kernel
theorem dX3_lifts_3 : decode cX3_lifts 3 = .ok (.bipush 64, 2) := by decide +kernel
theorem dX3_lifts_5 : decode cX3_lifts 5 = .ok (.if_icmp .ge 16, 3) := by decide +kernel
theorem dX3_lifts_8 : decode cX3_lifts 8 = .ok (.aload_n 0, 1) := by decide +kernel
theorem dX3_lifts_9 : decode cX3_lifts 9 = .ok (.getfield 56, 3) := by decide +kernel
theorem dX3_lifts_12 : decode cX3_lifts 12 = .ok (.iload_n 2, 1) := by decide +kernel
theorem dX3_lifts_13 : decode cX3_lifts 13 = .ok (.iconst 0, 1) := by decide +kernel
theorem dX3_lifts_14 : decode cX3_lifts 14 = .ok (.bastore, 1) := by decide +kernel
theorem dX3_lifts_15 : decode cX3_lifts 15 = .ok (.iinc 2 1, 3) := by decide +kernel
theorem dX3_lifts_18 : decode cX3_lifts 18 = .ok (.goto (-16), 3) := by decide +kernel
theorem dX3_lifts_21 : decode cX3_lifts 21 = .ok (.aload_n 0, 1) := by decide +kernel
theorem dX3_lifts_22 : decode cX3_lifts 22 = .ok (.getfield 56, 3) := by decide +kernel
theorem dX3_lifts_25 : decode cX3_lifts 25 = .ok (.iload_n 1, 1) := by decide +kernel
theorem dX3_lifts_26 : decode cX3_lifts 26 = .ok (.iconst 1, 1) := by decide +kernel
theorem dX3_lifts_27 : decode cX3_lifts 27 = .ok (.bastore, 1) := by decide +kernel
theorem dX3_lifts_28 : decode cX3_lifts 28 = .ok (.aload_n 0, 1) := by decide +kernel
theorem dX3_lifts_29 : decode cX3_lifts 29 = .ok (.getfield 59, 3) := by decide +kernel
theorem dX3_lifts_32 : decode cX3_lifts 32 = .ok (.iconst 0, 1) := by decide +kernel
theorem dX3_lifts_33 : decode cX3_lifts 33 = .ok (.iload_n 1, 1) := by decide +kernel
theorem dX3_lifts_34 : decode cX3_lifts 34 = .ok (.iastore, 1) := by decide +kernel
theorem dX3_lifts_35 : decode cX3_lifts 35 = .ok (.iconst 1, 1) := by decide +kernel
theorem dX3_lifts_36 : decode cX3_lifts 36 = .ok (.istore_n 2, 1) := by decide +kernel
theorem dX3_lifts_37 : decode cX3_lifts 37 = .ok (.iconst 0, 1) := by decide +kernel
theorem dX3_lifts_38 : decode cX3_lifts 38 = .ok (.istore_n 3, 1) := by decide +kernel
theorem dX3_lifts_39 : decode cX3_lifts 39 = .ok (.iload_n 3, 1) := by decide +kernel
theorem dX3_lifts_40 : decode cX3_lifts 40 = .ok (.iload_n 2, 1) := by decide +kernel
theorem dX3_lifts_41 : decode cX3_lifts 41 = .ok (.if_icmp .ge 119, 3) := by decide +kernel
theorem dX3_lifts_44 : decode cX3_lifts 44 = .ok (.bipush 8, 2) := by decide +kernel
theorem dX3_lifts_46 : decode cX3_lifts 46 = .ok (.aload_n 0, 1) := by decide +kernel
theorem dX3_lifts_47 : decode cX3_lifts 47 = .ok (.getfield 59, 3) := by decide +kernel
theorem dX3_lifts_50 : decode cX3_lifts 50 = .ok (.iload_n 3, 1) := by decide +kernel
theorem dX3_lifts_51 : decode cX3_lifts 51 = .ok (.iaload, 1) := by decide +kernel
theorem dX3_lifts_52 : decode cX3_lifts 52 = .ok (.bipush 8, 2) := by decide +kernel
theorem dX3_lifts_54 : decode cX3_lifts 54 = .ok (.idiv, 1) := by decide +kernel
theorem dX3_lifts_55 : decode cX3_lifts 55 = .ok (.iconst 1, 1) := by decide +kernel
theorem dX3_lifts_56 : decode cX3_lifts 56 = .ok (.iadd, 1) := by decide +kernel
theorem dX3_lifts_57 : decode cX3_lifts 57 = .ok (.imul, 1) := by decide +kernel
theorem dX3_lifts_58 : decode cX3_lifts 58 = .ok (.istore 4, 2) := by decide +kernel
theorem dX3_lifts_60 : decode cX3_lifts 60 = .ok (.iload 4, 2) := by decide +kernel
theorem dX3_lifts_62 : decode cX3_lifts 62 = .ok (.bipush 8, 2) := by decide +kernel
theorem dX3_lifts_64 : decode cX3_lifts 64 = .ok (.aload_n 0, 1) := by decide +kernel
theorem dX3_lifts_65 : decode cX3_lifts 65 = .ok (.getfield 70, 3) := by decide +kernel
theorem dX3_lifts_68 : decode cX3_lifts 68 = .ok (.imul, 1) := by decide +kernel
theorem dX3_lifts_69 : decode cX3_lifts 69 = .ok (.if_icmp .ge 85, 3) := by decide +kernel
theorem dX3_lifts_72 : decode cX3_lifts 72 = .ok (.iload 4, 2) := by decide +kernel
theorem dX3_lifts_74 : decode cX3_lifts 74 = .ok (.bipush 8, 2) := by decide +kernel
theorem dX3_lifts_76 : decode cX3_lifts 76 = .ok (.irem, 1) := by decide +kernel
theorem dX3_lifts_77 : decode cX3_lifts 77 = .ok (.aload_n 0, 1) := by decide +kernel
theorem dX3_lifts_78 : decode cX3_lifts 78 = .ok (.getfield 16, 3) := by decide +kernel
theorem dX3_lifts_81 : decode cX3_lifts 81 = .ok (.iload 4, 2) := by decide +kernel
theorem dX3_lifts_83 : decode cX3_lifts 83 = .ok (.bipush 8, 2) := by decide +kernel
theorem dX3_lifts_85 : decode cX3_lifts 85 = .ok (.idiv, 1) := by decide +kernel
theorem dX3_lifts_86 : decode cX3_lifts 86 = .ok (.iaload, 1) := by decide +kernel
theorem dX3_lifts_87 : decode cX3_lifts 87 = .ok (.iconst 1, 1) := by decide +kernel
theorem dX3_lifts_88 : decode cX3_lifts 88 = .ok (.isub, 1) := by decide +kernel
theorem dX3_lifts_89 : decode cX3_lifts 89 = .ok (.if_icmp .ge 17, 3) := by decide +kernel
theorem dX3_lifts_92 : decode cX3_lifts 92 = .ok (.aload_n 0, 1) := by decide +kernel
theorem dX3_lifts_93 : decode cX3_lifts 93 = .ok (.getfield 56, 3) := by decide +kernel
theorem dX3_lifts_96 : decode cX3_lifts 96 = .ok (.iload 4, 2) := by decide +kernel
theorem dX3_lifts_98 : decode cX3_lifts 98 = .ok (.baload, 1) := by decide +kernel
theorem dX3_lifts_99 : decode cX3_lifts 99 = .ok (.ifCond .ne 7, 3) := by decide +kernel
theorem dX3_lifts_102 : decode cX3_lifts 102 = .ok (.iconst 1, 1) := by decide +kernel
theorem dX3_lifts_103 : decode cX3_lifts 103 = .ok (.goto 4, 3) := by decide +kernel
theorem dX3_lifts_106 : decode cX3_lifts 106 = .ok (.iconst 0, 1) := by decide +kernel
theorem dX3_lifts_107 : decode cX3_lifts 107 = .ok (.istore 5, 2) := by decide +kernel
theorem dX3_lifts_109 : decode cX3_lifts 109 = .ok (.iload 5, 2) := by decide +kernel
theorem dX3_lifts_111 : decode cX3_lifts 111 = .ok (.ifCond .eq 37, 3) := by decide +kernel
theorem dX3_lifts_114 : decode cX3_lifts 114 = .ok (.aload_n 0, 1) := by decide +kernel
theorem dX3_lifts_115 : decode cX3_lifts 115 = .ok (.aload_n 0, 1) := by decide +kernel
theorem dX3_lifts_116 : decode cX3_lifts 116 = .ok (.getfield 59, 3) := by decide +kernel
theorem dX3_lifts_119 : decode cX3_lifts 119 = .ok (.iload_n 3, 1) := by decide +kernel
theorem dX3_lifts_120 : decode cX3_lifts 120 = .ok (.iaload, 1) := by decide +kernel
theorem dX3_lifts_121 : decode cX3_lifts 121 = .ok (.iload 4, 2) := by decide +kernel
theorem dX3_lifts_123 : decode cX3_lifts 123 = .ok (.invokevirtual 99, 3) := by decide +kernel
theorem dX3_lifts_126 : decode cX3_lifts 126 = .ok (.ifCond .eq 22, 3) := by decide +kernel
theorem dX3_lifts_129 : decode cX3_lifts 129 = .ok (.aload_n 0, 1) := by decide +kernel
theorem dX3_lifts_130 : decode cX3_lifts 130 = .ok (.getfield 56, 3) := by decide +kernel
theorem dX3_lifts_133 : decode cX3_lifts 133 = .ok (.iload 4, 2) := by decide +kernel
theorem dX3_lifts_135 : decode cX3_lifts 135 = .ok (.iconst 1, 1) := by decide +kernel
theorem dX3_lifts_136 : decode cX3_lifts 136 = .ok (.bastore, 1) := by decide +kernel
theorem dX3_lifts_137 : decode cX3_lifts 137 = .ok (.aload_n 0, 1) := by decide +kernel
theorem dX3_lifts_138 : decode cX3_lifts 138 = .ok (.getfield 59, 3) := by decide +kernel
theorem dX3_lifts_141 : decode cX3_lifts 141 = .ok (.iload_n 2, 1) := by decide +kernel
theorem dX3_lifts_142 : decode cX3_lifts 142 = .ok (.iload 4, 2) := by decide +kernel
theorem dX3_lifts_144 : decode cX3_lifts 144 = .ok (.iastore, 1) := by decide +kernel
theorem dX3_lifts_145 : decode cX3_lifts 145 = .ok (.iinc 2 1, 3) := by decide +kernel
theorem dX3_lifts_148 : decode cX3_lifts 148 = .ok (.iinc 4 1, 3) := by decide +kernel
theorem dX3_lifts_151 : decode cX3_lifts 151 = .ok (.goto (-91), 3) := by decide +kernel
theorem dX3_lifts_154 : decode cX3_lifts 154 = .ok (.iinc 3 1, 3) := by decide +kernel
theorem dX3_lifts_157 : decode cX3_lifts 157 = .ok (.goto (-118), 3) := by decide +kernel
theorem dX3_lifts_160 : decode cX3_lifts 160 = .ok (.iload_n 2, 1) := by decide +kernel
theorem dX3_lifts_161 : decode cX3_lifts 161 = .ok (.ireturn, 1) := by decide +kernel
set_option maxRecDepth 20000 in
theorem ggX3_lifted_X3_isPiece : GoodIn wsX3_lifted wsX3_isPiece := goodIn_r _ [5, 6, 7, 8, 9, 4, 10, 11, 12, 13, 14, 42, 43, 44, 45, 46, 47, 48, 49, 50, 51, 52, 53, 54, 55, 56, 57, 58, 59, 60, 61, 62, 63] (by decide +kernel) (by decide +kernel)
set_option maxRecDepth 20000 in
theorem gX3_lifted_X3_isPiece : GoodIn wsX3_lifted (wsV RX3 150 RX3 yX3_isPiece wsX3_isPiece) := goodIn_app (goodIn_of _ (by decide +kernel)) ggX3_lifted_X3_isPiece
set_option maxRecDepth 20000 in
theorem ggX3_lifted_X3_holds : GoodIn wsX3_lifted wsX3_holds := goodIn_r _ [18, 19, 42, 43, 44, 45, 46, 47, 48, 49, 50, 51, 52, 53, 54, 55, 56, 57, 58, 59, 60, 61, 62, 63] (by decide +kernel) (by decide +kernel)
set_option maxRecDepth 20000 in
theorem gX3_lifted_X3_holds : GoodIn wsX3_lifted (wsV RX3 84 RX3 yX3_holds wsX3_holds) := goodIn_app (goodIn_of _ (by decide +kernel)) ggX3_lifted_X3_holds
set_option maxRecDepth 20000 in
theorem ggX3_lifted_X3_lifts : GoodIn wsX3_lifted wsX3_lifts := goodIn_r _ [23, 24, 25, 11, 6, 26, 27, 28, 4, 29, 30, 31, 32, 33, 34, 35, 36, 37, 38, 39, 40, 41, 12, 13, 14, 42, 43, 44, 45, 46, 47, 48, 49, 50, 51, 52, 53, 54, 55, 56, 57, 58, 59, 60, 61, 62, 63] (by decide +kernel) (by decide +kernel)
set_option maxRecDepth 20000 in
theorem gX3_lifted_X3_lifts : GoodIn wsX3_lifted (wsV RX3 156 RX3 yX3_lifts wsX3_lifts) := goodIn_app (goodIn_of _ (by decide +kernel)) ggX3_lifted_X3_lifts
theorem dX3_lifted_0 : decode cX3_lifted 0 = .ok (.aload_n 0, 1) := by decide +kernel
theorem dX3_lifted_1 : decode cX3_lifted 1 = .ok (.aload_n 0, 1) := by decide +kernel
theorem dX3_lifted_2 : decode cX3_lifted 2 = .ok (.iload_n 1, 1) := by decide +kernel
theorem dX3_lifted_3 : decode cX3_lifted 3 = .ok (.iload_n 2, 1) := by decide +kernel
theorem dX3_lifted_4 : decode cX3_lifted 4 = .ok (.invokevirtual 150, 3) := by decide +kernel
theorem dX3_lifted_7 : decode cX3_lifted 7 = .ok (.ifCond .eq 7, 3) := by decide +kernel
theorem dX3_lifted_10 : decode cX3_lifted 10 = .ok (.iconst 0, 1) := by decide +kernel
theorem dX3_lifted_11 : decode cX3_lifted 11 = .ok (.goto 4, 3) := by decide +kernel
theorem dX3_lifted_14 : decode cX3_lifted 14 = .ok (.iconst 1, 1) := by decide +kernel
theorem dX3_lifted_15 : decode cX3_lifted 15 = .ok (.invokevirtual 84, 3) := by decide +kernel
theorem dX3_lifted_18 : decode cX3_lifted 18 = .ok (.ifCond .eq 16, 3) := by decide +kernel
theorem dX3_lifted_21 : decode cX3_lifted 21 = .ok (.aload_n 0, 1) := by decide +kernel
theorem dX3_lifted_22 : decode cX3_lifted 22 = .ok (.bipush 8, 2) := by decide +kernel
theorem dX3_lifted_24 : decode cX3_lifted 24 = .ok (.iload_n 1, 1) := by decide +kernel
theorem dX3_lifted_25 : decode cX3_lifted 25 = .ok (.imul, 1) := by decide +kernel
theorem dX3_lifted_26 : decode cX3_lifted 26 = .ok (.iload_n 2, 1) := by decide +kernel
theorem dX3_lifted_27 : decode cX3_lifted 27 = .ok (.iadd, 1) := by decide +kernel
theorem dX3_lifted_28 : decode cX3_lifted 28 = .ok (.invokevirtual 156, 3) := by decide +kernel
theorem dX3_lifted_31 : decode cX3_lifted 31 = .ok (.goto 4, 3) := by decide +kernel
theorem dX3_lifted_34 : decode cX3_lifted 34 = .ok (.iconst 0, 1) := by decide +kernel
theorem dX3_lifted_35 : decode cX3_lifted 35 = .ok (.ireturn, 1) := by decide +kernel
set_option maxRecDepth 20000 in
theorem ggX3_isPossible_X3_doCross : GoodIn wsX3_isPossible wsX3_doCross := goodIn_r _ [6, 7, 8, 9, 10, 11, 5, 12, 13, 14, 15, 16, 17, 18, 19, 20, 21, 32, 33, 34, 35, 36, 37, 38, 39, 40, 41, 42, 43, 44, 45, 46, 47, 48, 49, 50, 51, 52, 53] (by decide +kernel) (by decide +kernel)
set_option maxRecDepth 20000 in
theorem gX3_isPossible_X3_doCross : GoodIn wsX3_isPossible (wsV RX3 99 RX3 yX3_doCross wsX3_doCross) := goodIn_app (goodIn_of _ (by decide +kernel)) ggX3_isPossible_X3_doCross
set_option maxRecDepth 20000 in
theorem ggX3_isPossible_X3_isBare : GoodIn wsX3_isPossible wsX3_isBare := goodIn_r _ [25, 26, 27, 28, 29, 5, 30, 31, 2, 3, 4, 6, 7, 8, 9, 10, 11, 12, 13, 14, 15, 16, 17, 18, 19, 20, 21, 32, 33, 34, 35, 36, 37, 38, 39, 40, 41, 42, 43, 44, 45, 46, 47, 48, 49, 50, 51, 52, 53] (by decide +kernel) (by decide +kernel)
set_option maxRecDepth 20000 in
theorem gX3_isPossible_X3_isBare : GoodIn wsX3_isPossible (wsV RX3 126 RX3 yX3_isBare wsX3_isBare) := goodIn_app (goodIn_of _ (by decide +kernel)) ggX3_isPossible_X3_isBare
theorem dX3_isPossible_0 : decode cX3_isPossible 0 = .ok (.iconst 0, 1) := by decide +kernel
theorem dX3_isPossible_1 : decode cX3_isPossible 1 = .ok (.istore_n 2, 1) := by decide +kernel
theorem dX3_isPossible_2 : decode cX3_isPossible 2 = .ok (.iload_n 2, 1) := by decide +kernel
theorem dX3_isPossible_3 : decode cX3_isPossible 3 = .ok (.iload_n 1, 1) := by decide +kernel
theorem dX3_isPossible_4 : decode cX3_isPossible 4 = .ok (.iload_n 1, 1) := by decide +kernel
theorem dX3_isPossible_5 : decode cX3_isPossible 5 = .ok (.imul, 1) := by decide +kernel
theorem dX3_isPossible_6 : decode cX3_isPossible 6 = .ok (.if_icmp .ge 68, 3) := by decide +kernel
theorem dX3_isPossible_9 : decode cX3_isPossible 9 = .ok (.aload_n 0, 1) := by decide +kernel
theorem dX3_isPossible_10 : decode cX3_isPossible 10 = .ok (.getfield 59, 3) := by decide +kernel
theorem dX3_isPossible_13 : decode cX3_isPossible 13 = .ok (.iload_n 2, 1) := by decide +kernel
theorem dX3_isPossible_14 : decode cX3_isPossible 14 = .ok (.iload_n 1, 1) := by decide +kernel
theorem dX3_isPossible_15 : decode cX3_isPossible 15 = .ok (.idiv, 1) := by decide +kernel
theorem dX3_isPossible_16 : decode cX3_isPossible 16 = .ok (.iaload, 1) := by decide +kernel
theorem dX3_isPossible_17 : decode cX3_isPossible 17 = .ok (.istore_n 3, 1) := by decide +kernel
theorem dX3_isPossible_18 : decode cX3_isPossible 18 = .ok (.aload_n 0, 1) := by decide +kernel
theorem dX3_isPossible_19 : decode cX3_isPossible 19 = .ok (.getfield 59, 3) := by decide +kernel
theorem dX3_isPossible_22 : decode cX3_isPossible 22 = .ok (.iload_n 2, 1) := by decide +kernel
theorem dX3_isPossible_23 : decode cX3_isPossible 23 = .ok (.iload_n 1, 1) := by decide +kernel
theorem dX3_isPossible_24 : decode cX3_isPossible 24 = .ok (.irem, 1) := by decide +kernel
theorem dX3_isPossible_25 : decode cX3_isPossible 25 = .ok (.iaload, 1) := by decide +kernel
theorem dX3_isPossible_26 : decode cX3_isPossible 26 = .ok (.istore 4, 2) := by decide +kernel
theorem dX3_isPossible_28 : decode cX3_isPossible 28 = .ok (.iload_n 3, 1) := by decide +kernel
theorem dX3_isPossible_29 : decode cX3_isPossible 29 = .ok (.bipush 8, 2) := by decide +kernel
theorem dX3_isPossible_31 : decode cX3_isPossible 31 = .ok (.idiv, 1) := by decide +kernel
theorem dX3_isPossible_32 : decode cX3_isPossible 32 = .ok (.iload 4, 2) := by decide +kernel
theorem dX3_isPossible_34 : decode cX3_isPossible 34 = .ok (.bipush 8, 2) := by decide +kernel
theorem dX3_isPossible_36 : decode cX3_isPossible 36 = .ok (.idiv, 1) := by decide +kernel
theorem dX3_isPossible_37 : decode cX3_isPossible 37 = .ok (.if_icmp .eq 31, 3) := by decide +kernel
theorem dX3_isPossible_40 : decode cX3_isPossible 40 = .ok (.aload_n 0, 1) := by decide +kernel
theorem dX3_isPossible_41 : decode cX3_isPossible 41 = .ok (.iload_n 3, 1) := by decide +kernel
theorem dX3_isPossible_42 : decode cX3_isPossible 42 = .ok (.iload 4, 2) := by decide +kernel
theorem dX3_isPossible_44 : decode cX3_isPossible 44 = .ok (.invokevirtual 99, 3) := by decide +kernel
theorem dX3_isPossible_47 : decode cX3_isPossible 47 = .ok (.ifCond .eq 21, 3) := by decide +kernel
theorem dX3_isPossible_50 : decode cX3_isPossible 50 = .ok (.aload_n 0, 1) := by decide +kernel
theorem dX3_isPossible_51 : decode cX3_isPossible 51 = .ok (.iload_n 3, 1) := by decide +kernel
theorem dX3_isPossible_52 : decode cX3_isPossible 52 = .ok (.bipush 8, 2) := by decide +kernel
theorem dX3_isPossible_54 : decode cX3_isPossible 54 = .ok (.idiv, 1) := by decide +kernel
theorem dX3_isPossible_55 : decode cX3_isPossible 55 = .ok (.iload 4, 2) := by decide +kernel
theorem dX3_isPossible_57 : decode cX3_isPossible 57 = .ok (.bipush 8, 2) := by decide +kernel
theorem dX3_isPossible_59 : decode cX3_isPossible 59 = .ok (.idiv, 1) := by decide +kernel
theorem dX3_isPossible_60 : decode cX3_isPossible 60 = .ok (.invokevirtual 126, 3) := by decide +kernel
theorem dX3_isPossible_63 : decode cX3_isPossible 63 = .ok (.ifCond .eq 5, 3) := by decide +kernel
theorem dX3_isPossible_66 : decode cX3_isPossible 66 = .ok (.iconst 0, 1) := by decide +kernel
theorem dX3_isPossible_67 : decode cX3_isPossible 67 = .ok (.ireturn, 1) := by decide +kernel
theorem dX3_isPossible_68 : decode cX3_isPossible 68 = .ok (.iinc 2 1, 3) := by decide +kernel
theorem dX3_isPossible_71 : decode cX3_isPossible 71 = .ok (.goto (-69), 3) := by decide +kernel
theorem dX3_isPossible_74 : decode cX3_isPossible 74 = .ok (.iconst 1, 1) := by decide +kernel
theorem dX3_isPossible_75 : decode cX3_isPossible 75 = .ok (.ireturn, 1) := by decide +kernel
set_option maxRecDepth 20000 in
theorem ggX3_isTouched_X3_isClosedNow : GoodIn wsX3_isTouched wsX3_isClosedNow := goodIn_r _ [6, 7, 8, 9, 10, 5, 11, 32, 33, 34, 35, 36, 37, 38, 39, 40, 41, 42, 43, 44, 45, 46, 47, 48, 49, 50, 51, 52, 53] (by decide +kernel) (by decide +kernel)
set_option maxRecDepth 20000 in
theorem gX3_isTouched_X3_isClosedNow : GoodIn wsX3_isTouched (wsV RX3 147 RX3 yX3_isClosedNow wsX3_isClosedNow) := goodIn_app (goodIn_of _ (by decide +kernel)) ggX3_isTouched_X3_isClosedNow
set_option maxRecDepth 20000 in
theorem ggX3_isTouched_X3_doTouch : GoodIn wsX3_isTouched wsX3_doTouch := goodIn_r _ [15, 16, 17, 18, 19, 20, 21, 9, 10, 5, 11, 22, 23, 24, 25, 26, 27, 28, 29, 30, 31, 32, 33, 34, 35, 36, 37, 38, 39, 40, 41, 42, 43, 44, 45, 46, 47, 48, 49, 50, 51, 52, 53] (by decide +kernel) (by decide +kernel)
set_option maxRecDepth 20000 in
theorem gX3_isTouched_X3_doTouch : GoodIn wsX3_isTouched (wsV RX3 153 RX3 yX3_doTouch wsX3_doTouch) := goodIn_app (goodIn_of _ (by decide +kernel)) ggX3_isTouched_X3_doTouch
theorem dX3_isTouched_0 : decode cX3_isTouched 0 = .ok (.iconst 0, 1) := by decide +kernel
theorem dX3_isTouched_1 : decode cX3_isTouched 1 = .ok (.istore 4, 2) := by decide +kernel
theorem dX3_isTouched_3 : decode cX3_isTouched 3 = .ok (.iload 4, 2) := by decide +kernel
theorem dX3_isTouched_5 : decode cX3_isTouched 5 = .ok (.iload_n 3, 1) := by decide +kernel
theorem dX3_isTouched_6 : decode cX3_isTouched 6 = .ok (.if_icmp .ge 35, 3) := by decide +kernel
theorem dX3_isTouched_9 : decode cX3_isTouched 9 = .ok (.aload_n 0, 1) := by decide +kernel
theorem dX3_isTouched_10 : decode cX3_isTouched 10 = .ok (.iload_n 1, 1) := by decide +kernel
theorem dX3_isTouched_11 : decode cX3_isTouched 11 = .ok (.iload_n 2, 1) := by decide +kernel
theorem dX3_isTouched_12 : decode cX3_isTouched 12 = .ok (.invokevirtual 147, 3) := by decide +kernel
theorem dX3_isTouched_15 : decode cX3_isTouched 15 = .ok (.ifCond .eq 26, 3) := by decide +kernel
theorem dX3_isTouched_18 : decode cX3_isTouched 18 = .ok (.aload_n 0, 1) := by decide +kernel
theorem dX3_isTouched_19 : decode cX3_isTouched 19 = .ok (.aload_n 0, 1) := by decide +kernel
theorem dX3_isTouched_20 : decode cX3_isTouched 20 = .ok (.getfield 59, 3) := by decide +kernel
theorem dX3_isTouched_23 : decode cX3_isTouched 23 = .ok (.iload 4, 2) := by decide +kernel
theorem dX3_isTouched_25 : decode cX3_isTouched 25 = .ok (.iaload, 1) := by decide +kernel
theorem dX3_isTouched_26 : decode cX3_isTouched 26 = .ok (.iload_n 1, 1) := by decide +kernel
theorem dX3_isTouched_27 : decode cX3_isTouched 27 = .ok (.invokevirtual 153, 3) := by decide +kernel
theorem dX3_isTouched_30 : decode cX3_isTouched 30 = .ok (.ifCond .eq 5, 3) := by decide +kernel
theorem dX3_isTouched_33 : decode cX3_isTouched 33 = .ok (.iconst 1, 1) := by decide +kernel
theorem dX3_isTouched_34 : decode cX3_isTouched 34 = .ok (.ireturn, 1) := by decide +kernel
theorem dX3_isTouched_35 : decode cX3_isTouched 35 = .ok (.iinc 4 1, 3) := by decide +kernel
theorem dX3_isTouched_38 : decode cX3_isTouched 38 = .ok (.goto (-35), 3) := by decide +kernel
theorem dX3_isTouched_41 : decode cX3_isTouched 41 = .ok (.iconst 0, 1) := by decide +kernel
theorem dX3_isTouched_42 : decode cX3_isTouched 42 = .ok (.ireturn, 1) := by decide +kernel
set_option maxRecDepth 20000 in
theorem ggX3_repaired_X3_lifts : GoodIn wsX3_repaired wsX3_lifts := goodIn_r _ [7, 8, 9, 10, 11, 12, 13, 14, 6, 15, 16, 17, 18, 19, 20, 21, 22, 23, 24, 25, 26, 27, 28, 29, 30, 68, 69, 70, 71, 72, 73, 74, 75, 76, 77, 78, 79, 80, 81, 82, 83, 84, 85, 86, 87, 88, 89] (by decide +kernel) (by decide +kernel)
set_option maxRecDepth 20000 in
theorem gX3_repaired_X3_lifts : GoodIn wsX3_repaired (wsV RX3 156 RX3 yX3_lifts wsX3_lifts) := goodIn_app (goodIn_of _ (by decide +kernel)) ggX3_repaired_X3_lifts
set_option maxRecDepth 20000 in
theorem ggX3_repaired_X3_isPossible : GoodIn wsX3_repaired wsX3_isPossible := goodIn_r _ [34, 9, 12, 13, 14, 6, 15, 16, 17, 18, 19, 20, 21, 22, 23, 24, 25, 26, 27, 28, 29, 30, 35, 36, 37, 38, 39, 40, 41, 42, 43, 11, 68, 69, 70, 71, 72, 73, 74, 75, 76, 77, 78, 79, 80, 81, 82, 83, 84, 85, 86, 87, 88, 89] (by decide +kernel) (by decide +kernel)
set_option maxRecDepth 20000 in
theorem gX3_repaired_X3_isPossible : GoodIn wsX3_repaired (wsV RX3 159 RX3 yX3_isPossible wsX3_isPossible) := goodIn_app (goodIn_of _ (by decide +kernel)) ggX3_repaired_X3_isPossible
set_option maxRecDepth 20000 in
theorem ggX3_repaired_X3_isTouched : GoodIn wsX3_repaired wsX3_isTouched := goodIn_r _ [47, 9, 48, 49, 50, 6, 51, 52, 53, 28, 29, 30, 54, 55, 56, 57, 58, 59, 60, 61, 16, 17, 18, 19, 20, 21, 22, 23, 24, 25, 26, 27, 68, 69, 70, 71, 72, 73, 74, 75, 76, 77, 78, 79, 80, 81, 82, 83, 84, 85, 86, 87, 88, 89] (by decide +kernel) (by decide +kernel)
set_option maxRecDepth 20000 in
theorem gX3_repaired_X3_isTouched : GoodIn wsX3_repaired (wsV RX3 162 RX3 yX3_isTouched wsX3_isTouched) := goodIn_app (goodIn_of _ (by decide +kernel)) ggX3_repaired_X3_isTouched
set_option maxRecDepth 20000 in
theorem ggX3_repaired_X3_price : GoodIn wsX3_repaired wsX3_price := goodIn_r _ [65, 66, 67, 68, 69, 70, 71, 72, 73, 74, 75, 76, 77, 78, 79, 80, 81, 82, 83, 84, 85, 86, 87, 88, 89] (by decide +kernel) (by decide +kernel)
set_option maxRecDepth 20000 in
theorem gX3_repaired_X3_price : GoodIn wsX3_repaired (wsV RX3 143 RX3 yX3_price wsX3_price) := goodIn_app (goodIn_of _ (by decide +kernel)) ggX3_repaired_X3_price
theorem dX3_repaired_0 : decode cX3_repaired 0 = .ok (.aload_n 0, 1) := by decide +kernel
theorem dX3_repaired_1 : decode cX3_repaired 1 = .ok (.iload_n 1, 1) := by decide +kernel
theorem dX3_repaired_2 : decode cX3_repaired 2 = .ok (.invokevirtual 156, 3) := by decide +kernel
theorem dX3_repaired_5 : decode cX3_repaired 5 = .ok (.istore 4, 2) := by decide +kernel
theorem dX3_repaired_7 : decode cX3_repaired 7 = .ok (.aload_n 0, 1) := by decide +kernel
theorem dX3_repaired_8 : decode cX3_repaired 8 = .ok (.iload 4, 2) := by decide +kernel
theorem dX3_repaired_10 : decode cX3_repaired 10 = .ok (.invokevirtual 159, 3) := by decide +kernel
theorem dX3_repaired_13 : decode cX3_repaired 13 = .ok (.ifCond .ne 5, 3) := by decide +kernel
theorem dX3_repaired_16 : decode cX3_repaired 16 = .ok (.iconst (-1), 1) := by decide +kernel
theorem dX3_repaired_17 : decode cX3_repaired 17 = .ok (.ireturn, 1) := by decide +kernel
theorem dX3_repaired_18 : decode cX3_repaired 18 = .ok (.bipush 10, 2) := by decide +kernel
theorem dX3_repaired_20 : decode cX3_repaired 20 = .ok (.iload 4, 2) := by decide +kernel
theorem dX3_repaired_22 : decode cX3_repaired 22 = .ok (.imul, 1) := by decide +kernel
theorem dX3_repaired_23 : decode cX3_repaired 23 = .ok (.istore 5, 2) := by decide +kernel
theorem dX3_repaired_25 : decode cX3_repaired 25 = .ok (.iconst 0, 1) := by decide +kernel
theorem dX3_repaired_26 : decode cX3_repaired 26 = .ok (.istore 6, 2) := by decide +kernel
theorem dX3_repaired_28 : decode cX3_repaired 28 = .ok (.iload 6, 2) := by decide +kernel
theorem dX3_repaired_30 : decode cX3_repaired 30 = .ok (.aload_n 0, 1) := by decide +kernel
theorem dX3_repaired_31 : decode cX3_repaired 31 = .ok (.getfield 133, 3) := by decide +kernel
theorem dX3_repaired_34 : decode cX3_repaired 34 = .ok (.if_icmp .ge 60, 3) := by decide +kernel
theorem dX3_repaired_37 : decode cX3_repaired 37 = .ok (.aload_n 0, 1) := by decide +kernel
theorem dX3_repaired_38 : decode cX3_repaired 38 = .ok (.iload 6, 2) := by decide +kernel
theorem dX3_repaired_40 : decode cX3_repaired 40 = .ok (.iload_n 2, 1) := by decide +kernel
theorem dX3_repaired_41 : decode cX3_repaired 41 = .ok (.iload 4, 2) := by decide +kernel
theorem dX3_repaired_43 : decode cX3_repaired 43 = .ok (.invokevirtual 162, 3) := by decide +kernel
theorem dX3_repaired_46 : decode cX3_repaired 46 = .ok (.ifCond .eq 12, 3) := by decide +kernel
theorem dX3_repaired_49 : decode cX3_repaired 49 = .ok (.aload_n 0, 1) := by decide +kernel
theorem dX3_repaired_50 : decode cX3_repaired 50 = .ok (.iload 6, 2) := by decide +kernel
theorem dX3_repaired_52 : decode cX3_repaired 52 = .ok (.invokevirtual 143, 3) := by decide +kernel
theorem dX3_repaired_55 : decode cX3_repaired 55 = .ok (.goto 4, 3) := by decide +kernel
theorem dX3_repaired_58 : decode cX3_repaired 58 = .ok (.iconst 0, 1) := by decide +kernel
theorem dX3_repaired_59 : decode cX3_repaired 59 = .ok (.istore 7, 2) := by decide +kernel
theorem dX3_repaired_61 : decode cX3_repaired 61 = .ok (.iload 5, 2) := by decide +kernel
theorem dX3_repaired_63 : decode cX3_repaired 63 = .ok (.iload 7, 2) := by decide +kernel
theorem dX3_repaired_65 : decode cX3_repaired 65 = .ok (.iadd, 1) := by decide +kernel
theorem dX3_repaired_66 : decode cX3_repaired 66 = .ok (.istore 5, 2) := by decide +kernel
theorem dX3_repaired_68 : decode cX3_repaired 68 = .ok (.aload_n 0, 1) := by decide +kernel
theorem dX3_repaired_69 : decode cX3_repaired 69 = .ok (.getfield 53, 3) := by decide +kernel
theorem dX3_repaired_72 : decode cX3_repaired 72 = .ok (.iload 6, 2) := by decide +kernel
theorem dX3_repaired_74 : decode cX3_repaired 74 = .ok (.dup2, 1) := by decide +kernel
theorem dX3_repaired_75 : decode cX3_repaired 75 = .ok (.iaload, 1) := by decide +kernel
theorem dX3_repaired_76 : decode cX3_repaired 76 = .ok (.iload_n 3, 1) := by decide +kernel
theorem dX3_repaired_77 : decode cX3_repaired 77 = .ok (.ifCond .eq 8, 3) := by decide +kernel
theorem dX3_repaired_80 : decode cX3_repaired 80 = .ok (.iload 7, 2) := by decide +kernel
theorem dX3_repaired_82 : decode cX3_repaired 82 = .ok (.goto 4, 3) := by decide +kernel
theorem dX3_repaired_85 : decode cX3_repaired 85 = .ok (.iconst 0, 1) := by decide +kernel
theorem dX3_repaired_86 : decode cX3_repaired 86 = .ok (.iadd, 1) := by decide +kernel
theorem dX3_repaired_87 : decode cX3_repaired 87 = .ok (.iastore, 1) := by decide +kernel
theorem dX3_repaired_88 : decode cX3_repaired 88 = .ok (.iinc 6 1, 3) := by decide +kernel
theorem dX3_repaired_91 : decode cX3_repaired 91 = .ok (.goto (-63), 3) := by decide +kernel
theorem dX3_repaired_94 : decode cX3_repaired 94 = .ok (.iload 5, 2) := by decide +kernel
theorem dX3_repaired_96 : decode cX3_repaired 96 = .ok (.ireturn, 1) := by decide +kernel
set_option maxRecDepth 20000 in
theorem ggX3_cost_X3_isPiece : GoodIn wsX3_cost wsX3_isPiece := goodIn_r _ [5, 6, 7, 8, 9, 4, 10, 11, 12, 13, 14, 88, 89, 90, 91, 92, 93, 94, 95, 96, 97, 98, 99, 100, 101, 102, 103, 104, 105, 106, 107, 108, 109] (by decide +kernel) (by decide +kernel)
set_option maxRecDepth 20000 in
theorem gX3_cost_X3_isPiece : GoodIn wsX3_cost (wsV RX3 150 RX3 yX3_isPiece wsX3_isPiece) := goodIn_app (goodIn_of _ (by decide +kernel)) ggX3_cost_X3_isPiece
set_option maxRecDepth 20000 in
theorem ggX3_cost_X3_isMonth : GoodIn wsX3_cost wsX3_isMonth := goodIn_r _ [17, 12, 13, 4, 14] (by decide +kernel) (by decide +kernel)
set_option maxRecDepth 20000 in
theorem gX3_cost_X3_isMonth : GoodIn wsX3_cost (va_wsS RX3 136 yX3_isMonth wsX3_isMonth) := goodIn_app (goodIn_of _ (by decide +kernel)) ggX3_cost_X3_isMonth
set_option maxRecDepth 20000 in
theorem ggX3_cost_X3_holds : GoodIn wsX3_cost wsX3_holds := goodIn_r _ [21, 22, 88, 89, 90, 91, 92, 93, 94, 95, 96, 97, 98, 99, 100, 101, 102, 103, 104, 105, 106, 107, 108, 109] (by decide +kernel) (by decide +kernel)
set_option maxRecDepth 20000 in
theorem gX3_cost_X3_holds : GoodIn wsX3_cost (wsV RX3 84 RX3 yX3_holds wsX3_holds) := goodIn_app (goodIn_of _ (by decide +kernel)) ggX3_cost_X3_holds
set_option maxRecDepth 20000 in
theorem ggX3_cost_X3_repaired : GoodIn wsX3_cost wsX3_repaired := goodIn_r _ [26, 27, 28, 29, 30, 31, 4, 32, 33, 34, 11, 6, 35, 36, 37, 38, 39, 40, 41, 42, 43, 44, 45, 46, 47, 48, 49, 50, 12, 13, 14, 51, 52, 53, 54, 55, 56, 57, 58, 59, 60, 61, 62, 63, 64, 65, 66, 67, 68, 69, 70, 71, 72, 73, 74, 75, 76, 77, 78, 79, 80, 81, 82, 83, 84, 85, 86, 87, 88, 89, 90, 91, 92, 93, 94, 95, 96, 97, 98, 99, 100, 101, 102, 103, 104, 105, 106, 107, 108, 109] (by decide +kernel) (by decide +kernel)
set_option maxRecDepth 20000 in
theorem gX3_cost_X3_repaired : GoodIn wsX3_cost (wsV RX3 165 RX3 yX3_repaired wsX3_repaired) := goodIn_app (goodIn_of _ (by decide +kernel)) ggX3_cost_X3_repaired
theorem dX3_cost_0 : decode cX3_cost 0 = .ok (.aload_n 0, 1) := by decide +kernel
theorem dX3_cost_1 : decode cX3_cost 1 = .ok (.aload_n 0, 1) := by decide +kernel
theorem dX3_cost_2 : decode cX3_cost 2 = .ok (.iload_n 1, 1) := by decide +kernel
theorem dX3_cost_3 : decode cX3_cost 3 = .ok (.iload_n 2, 1) := by decide +kernel
theorem dX3_cost_4 : decode cX3_cost 4 = .ok (.invokevirtual 150, 3) := by decide +kernel
theorem dX3_cost_7 : decode cX3_cost 7 = .ok (.ifCond .ne 7, 3) := by decide +kernel
theorem dX3_cost_10 : decode cX3_cost 10 = .ok (.iconst 1, 1) := by decide +kernel
theorem dX3_cost_11 : decode cX3_cost 11 = .ok (.goto 15, 3) := by decide +kernel
theorem dX3_cost_14 : decode cX3_cost 14 = .ok (.iload_n 3, 1) := by decide +kernel
theorem dX3_cost_15 : decode cX3_cost 15 = .ok (.invokestatic 136, 3) := by decide +kernel
theorem dX3_cost_18 : decode cX3_cost 18 = .ok (.ifCond .eq 7, 3) := by decide +kernel
theorem dX3_cost_21 : decode cX3_cost 21 = .ok (.iconst 0, 1) := by decide +kernel
theorem dX3_cost_22 : decode cX3_cost 22 = .ok (.goto 4, 3) := by decide +kernel
theorem dX3_cost_25 : decode cX3_cost 25 = .ok (.iconst 2, 1) := by decide +kernel
theorem dX3_cost_26 : decode cX3_cost 26 = .ok (.invokevirtual 84, 3) := by decide +kernel
theorem dX3_cost_29 : decode cX3_cost 29 = .ok (.ifCond .eq 18, 3) := by decide +kernel
theorem dX3_cost_32 : decode cX3_cost 32 = .ok (.aload_n 0, 1) := by decide +kernel
theorem dX3_cost_33 : decode cX3_cost 33 = .ok (.bipush 8, 2) := by decide +kernel
theorem dX3_cost_35 : decode cX3_cost 35 = .ok (.iload_n 1, 1) := by decide +kernel
theorem dX3_cost_36 : decode cX3_cost 36 = .ok (.imul, 1) := by decide +kernel
theorem dX3_cost_37 : decode cX3_cost 37 = .ok (.iload_n 2, 1) := by decide +kernel
theorem dX3_cost_38 : decode cX3_cost 38 = .ok (.iadd, 1) := by decide +kernel
theorem dX3_cost_39 : decode cX3_cost 39 = .ok (.iload_n 3, 1) := by decide +kernel
theorem dX3_cost_40 : decode cX3_cost 40 = .ok (.iconst 0, 1) := by decide +kernel
theorem dX3_cost_41 : decode cX3_cost 41 = .ok (.invokevirtual 165, 3) := by decide +kernel
theorem dX3_cost_44 : decode cX3_cost 44 = .ok (.goto 4, 3) := by decide +kernel
theorem dX3_cost_47 : decode cX3_cost 47 = .ok (.iconst 0, 1) := by decide +kernel
theorem dX3_cost_48 : decode cX3_cost 48 = .ok (.ireturn, 1) := by decide +kernel
set_option maxRecDepth 20000 in
theorem ggX3_errorOfRepair_X3_isPiece : GoodIn wsX3_errorOfRepair wsX3_isPiece := goodIn_r _ [6, 7, 8, 9, 10, 5, 11, 12, 13, 14, 15, 84, 85, 86, 87, 88, 89, 90, 91, 92, 93, 94, 95, 96, 97, 98, 99, 100, 101, 102, 103, 104, 105] (by decide +kernel) (by decide +kernel)
set_option maxRecDepth 20000 in
theorem gX3_errorOfRepair_X3_isPiece : GoodIn wsX3_errorOfRepair (wsV RX3 150 RX3 yX3_isPiece wsX3_isPiece) := goodIn_app (goodIn_of _ (by decide +kernel)) ggX3_errorOfRepair_X3_isPiece
set_option maxRecDepth 20000 in
theorem ggX3_errorOfRepair_X3_isMonth : GoodIn wsX3_errorOfRepair wsX3_isMonth := goodIn_r _ [18, 13, 14, 5, 15] (by decide +kernel) (by decide +kernel)
set_option maxRecDepth 20000 in
theorem gX3_errorOfRepair_X3_isMonth : GoodIn wsX3_errorOfRepair (va_wsS RX3 136 yX3_isMonth wsX3_isMonth) := goodIn_app (goodIn_of _ (by decide +kernel)) ggX3_errorOfRepair_X3_isMonth
set_option maxRecDepth 20000 in
theorem ggX3_errorOfRepair_X3_repaired : GoodIn wsX3_errorOfRepair wsX3_repaired := goodIn_r _ [22, 23, 24, 25, 26, 27, 5, 28, 29, 30, 12, 7, 31, 32, 33, 34, 35, 36, 37, 38, 39, 40, 41, 42, 43, 44, 45, 46, 13, 14, 15, 47, 48, 49, 50, 51, 52, 53, 54, 55, 56, 57, 58, 59, 60, 61, 62, 63, 64, 65, 66, 67, 68, 69, 70, 71, 72, 73, 74, 75, 76, 77, 78, 79, 80, 81, 82, 83, 84, 85, 86, 87, 88, 89, 90, 91, 92, 93, 94, 95, 96, 97, 98, 99, 100, 101, 102, 103, 104, 105] (by decide +kernel) (by decide +kernel)
set_option maxRecDepth 20000 in
theorem gX3_errorOfRepair_X3_repaired : GoodIn wsX3_errorOfRepair (wsV RX3 165 RX3 yX3_repaired wsX3_repaired) := goodIn_app (goodIn_of _ (by decide +kernel)) ggX3_errorOfRepair_X3_repaired
theorem dX3_errorOfRepair_0 : decode cX3_errorOfRepair 0 = .ok (.aload_n 0, 1) := by decide +kernel
theorem dX3_errorOfRepair_1 : decode cX3_errorOfRepair 1 = .ok (.iload_n 1, 1) := by decide +kernel
theorem dX3_errorOfRepair_2 : decode cX3_errorOfRepair 2 = .ok (.iload_n 2, 1) := by decide +kernel
theorem dX3_errorOfRepair_3 : decode cX3_errorOfRepair 3 = .ok (.invokevirtual 150, 3) := by decide +kernel
theorem dX3_errorOfRepair_6 : decode cX3_errorOfRepair 6 = .ok (.ifCond .ne 5, 3) := by decide +kernel
theorem dX3_errorOfRepair_9 : decode cX3_errorOfRepair 9 = .ok (.iconst 1, 1) := by decide +kernel
theorem dX3_errorOfRepair_10 : decode cX3_errorOfRepair 10 = .ok (.ireturn, 1) := by decide +kernel
theorem dX3_errorOfRepair_11 : decode cX3_errorOfRepair 11 = .ok (.iload_n 3, 1) := by decide +kernel
theorem dX3_errorOfRepair_12 : decode cX3_errorOfRepair 12 = .ok (.invokestatic 136, 3) := by decide +kernel
theorem dX3_errorOfRepair_15 : decode cX3_errorOfRepair 15 = .ok (.ifCond .ne 5, 3) := by decide +kernel
theorem dX3_errorOfRepair_18 : decode cX3_errorOfRepair 18 = .ok (.iconst 2, 1) := by decide +kernel
theorem dX3_errorOfRepair_19 : decode cX3_errorOfRepair 19 = .ok (.ireturn, 1) := by decide +kernel
theorem dX3_errorOfRepair_20 : decode cX3_errorOfRepair 20 = .ok (.aload_n 0, 1) := by decide +kernel
theorem dX3_errorOfRepair_21 : decode cX3_errorOfRepair 21 = .ok (.getfield 169, 3) := by decide +kernel
theorem dX3_errorOfRepair_24 : decode cX3_errorOfRepair 24 = .ok (.sipush 500, 3) := by decide +kernel
theorem dX3_errorOfRepair_27 : decode cX3_errorOfRepair 27 = .ok (.if_icmp .eq 19, 3) := by decide +kernel
theorem dX3_errorOfRepair_30 : decode cX3_errorOfRepair 30 = .ok (.aload_n 0, 1) := by decide +kernel
theorem dX3_errorOfRepair_31 : decode cX3_errorOfRepair 31 = .ok (.bipush 8, 2) := by decide +kernel
theorem dX3_errorOfRepair_33 : decode cX3_errorOfRepair 33 = .ok (.iload_n 1, 1) := by decide +kernel
theorem dX3_errorOfRepair_34 : decode cX3_errorOfRepair 34 = .ok (.imul, 1) := by decide +kernel
theorem dX3_errorOfRepair_35 : decode cX3_errorOfRepair 35 = .ok (.iload_n 2, 1) := by decide +kernel
theorem dX3_errorOfRepair_36 : decode cX3_errorOfRepair 36 = .ok (.iadd, 1) := by decide +kernel
theorem dX3_errorOfRepair_37 : decode cX3_errorOfRepair 37 = .ok (.iload_n 3, 1) := by decide +kernel
theorem dX3_errorOfRepair_38 : decode cX3_errorOfRepair 38 = .ok (.iconst 0, 1) := by decide +kernel
theorem dX3_errorOfRepair_39 : decode cX3_errorOfRepair 39 = .ok (.invokevirtual 165, 3) := by decide +kernel
theorem dX3_errorOfRepair_42 : decode cX3_errorOfRepair 42 = .ok (.iconst (-1), 1) := by decide +kernel
theorem dX3_errorOfRepair_43 : decode cX3_errorOfRepair 43 = .ok (.if_icmp .ne 7, 3) := by decide +kernel
theorem dX3_errorOfRepair_46 : decode cX3_errorOfRepair 46 = .ok (.iconst 3, 1) := by decide +kernel
theorem dX3_errorOfRepair_47 : decode cX3_errorOfRepair 47 = .ok (.goto 4, 3) := by decide +kernel
theorem dX3_errorOfRepair_50 : decode cX3_errorOfRepair 50 = .ok (.iconst 0, 1) := by decide +kernel
theorem dX3_errorOfRepair_51 : decode cX3_errorOfRepair 51 = .ok (.ireturn, 1) := by decide +kernel
set_option maxRecDepth 20000 in
theorem ggX3_repair_X3_errorOfRepair : GoodIn wsX3_repair wsX3_errorOfRepair := goodIn_r _ [6, 1, 7, 8, 9, 5, 10, 11, 12, 13, 14, 15, 16, 17, 18, 19, 20, 21, 22, 23, 24, 25, 26, 27, 28, 29, 30, 31, 32, 33, 34, 35, 36, 37, 38, 39, 40, 41, 42, 43, 44, 45, 46, 47, 48, 49, 50, 51, 52, 53, 54, 55, 56, 57, 58, 59, 60, 61, 62, 63, 64, 65, 66, 67, 68, 69, 70, 71, 72, 73, 74, 75, 76, 77, 78, 79, 80, 81, 82, 83, 84, 85, 86, 87, 93, 94, 95, 96, 97, 98, 99, 100, 101, 102, 103, 104, 105, 106, 107, 108, 109, 110, 111, 112, 113, 114] (by decide +kernel) (by decide +kernel)
set_option maxRecDepth 20000 in
theorem gX3_repair_X3_errorOfRepair : GoodIn wsX3_repair (wsV RX3 172 RX3 yX3_errorOfRepair wsX3_errorOfRepair) := goodIn_app (goodIn_of _ (by decide +kernel)) ggX3_repair_X3_errorOfRepair
set_option maxRecDepth 20000 in
theorem ggX3_repair_X3_holds : GoodIn wsX3_repair wsX3_holds := goodIn_r _ [91, 92, 93, 94, 95, 96, 97, 98, 99, 100, 101, 102, 103, 104, 105, 106, 107, 108, 109, 110, 111, 112, 113, 114] (by decide +kernel) (by decide +kernel)
set_option maxRecDepth 20000 in
theorem gX3_repair_X3_holds : GoodIn wsX3_repair (wsV RX3 84 RX3 yX3_holds wsX3_holds) := goodIn_app (goodIn_of _ (by decide +kernel)) ggX3_repair_X3_holds
set_option maxRecDepth 20000 in
theorem ggX3_repair_X3_repaired : GoodIn wsX3_repair wsX3_repaired := goodIn_r _ [26, 27, 28, 29, 30, 31, 5, 32, 33, 34, 16, 11, 35, 36, 37, 38, 39, 40, 41, 42, 43, 44, 45, 46, 47, 48, 49, 50, 17, 18, 19, 51, 52, 53, 54, 55, 56, 57, 58, 59, 60, 61, 62, 63, 64, 65, 66, 67, 68, 69, 70, 71, 72, 73, 74, 75, 76, 77, 78, 79, 80, 81, 82, 83, 84, 85, 86, 87, 93, 94, 95, 96, 97, 98, 99, 100, 101, 102, 103, 104, 105, 106, 107, 108, 109, 110, 111, 112, 113, 114] (by decide +kernel) (by decide +kernel)
set_option maxRecDepth 20000 in
theorem gX3_repair_X3_repaired : GoodIn wsX3_repair (wsV RX3 165 RX3 yX3_repaired wsX3_repaired) := goodIn_app (goodIn_of _ (by decide +kernel)) ggX3_repair_X3_repaired
theorem dX3_repair_0 : decode cX3_repair 0 = .ok (.aload_n 0, 1) := by decide +kernel
theorem dX3_repair_1 : decode cX3_repair 1 = .ok (.aload_n 0, 1) := by decide +kernel
theorem dX3_repair_2 : decode cX3_repair 2 = .ok (.iload_n 1, 1) := by decide +kernel
theorem dX3_repair_3 : decode cX3_repair 3 = .ok (.iload_n 2, 1) := by decide +kernel
theorem dX3_repair_4 : decode cX3_repair 4 = .ok (.iload_n 3, 1) := by decide +kernel
theorem dX3_repair_5 : decode cX3_repair 5 = .ok (.invokevirtual 172, 3) := by decide +kernel
theorem dX3_repair_8 : decode cX3_repair 8 = .ok (.invokevirtual 84, 3) := by decide +kernel
theorem dX3_repair_11 : decode cX3_repair 11 = .ok (.ifCond .ne 5, 3) := by decide +kernel
theorem dX3_repair_14 : decode cX3_repair 14 = .ok (.iconst 0, 1) := by decide +kernel
theorem dX3_repair_15 : decode cX3_repair 15 = .ok (.ireturn, 1) := by decide +kernel
theorem dX3_repair_16 : decode cX3_repair 16 = .ok (.aload_n 0, 1) := by decide +kernel
theorem dX3_repair_17 : decode cX3_repair 17 = .ok (.dup, 1) := by decide +kernel
theorem dX3_repair_18 : decode cX3_repair 18 = .ok (.getfield 169, 3) := by decide +kernel
theorem dX3_repair_21 : decode cX3_repair 21 = .ok (.iconst 1, 1) := by decide +kernel
theorem dX3_repair_22 : decode cX3_repair 22 = .ok (.iadd, 1) := by decide +kernel
theorem dX3_repair_23 : decode cX3_repair 23 = .ok (.putfield 169, 3) := by decide +kernel
theorem dX3_repair_26 : decode cX3_repair 26 = .ok (.aload_n 0, 1) := by decide +kernel
theorem dX3_repair_27 : decode cX3_repair 27 = .ok (.bipush 8, 2) := by decide +kernel
theorem dX3_repair_29 : decode cX3_repair 29 = .ok (.iload_n 1, 1) := by decide +kernel
theorem dX3_repair_30 : decode cX3_repair 30 = .ok (.imul, 1) := by decide +kernel
theorem dX3_repair_31 : decode cX3_repair 31 = .ok (.iload_n 2, 1) := by decide +kernel
theorem dX3_repair_32 : decode cX3_repair 32 = .ok (.iadd, 1) := by decide +kernel
theorem dX3_repair_33 : decode cX3_repair 33 = .ok (.iload_n 3, 1) := by decide +kernel
theorem dX3_repair_34 : decode cX3_repair 34 = .ok (.iconst 1, 1) := by decide +kernel
theorem dX3_repair_35 : decode cX3_repair 35 = .ok (.invokevirtual 165, 3) := by decide +kernel
theorem dX3_repair_38 : decode cX3_repair 38 = .ok (.ireturn, 1) := by decide +kernel
set_option maxRecDepth 20000 in
theorem ggX3_paid_X3_isGround : GoodIn wsX3_paid wsX3_isGround := goodIn_r _ [6, 7, 8, 9, 5, 10, 16, 17, 18, 19, 20, 21, 22, 23, 24, 25, 26, 27, 28, 29, 30, 31, 32, 33, 34, 35, 36, 37] (by decide +kernel) (by decide +kernel)
set_option maxRecDepth 20000 in
theorem gX3_paid_X3_isGround : GoodIn wsX3_paid (wsV RX3 139 RX3 yX3_isGround wsX3_isGround) := goodIn_app (goodIn_of _ (by decide +kernel)) ggX3_paid_X3_isGround
set_option maxRecDepth 20000 in
theorem ggX3_paid_X3_holds : GoodIn wsX3_paid wsX3_holds := goodIn_r _ [14, 15, 16, 17, 18, 19, 20, 21, 22, 23, 24, 25, 26, 27, 28, 29, 30, 31, 32, 33, 34, 35, 36, 37] (by decide +kernel) (by decide +kernel)
set_option maxRecDepth 20000 in
theorem gX3_paid_X3_holds : GoodIn wsX3_paid (wsV RX3 84 RX3 yX3_holds wsX3_holds) := goodIn_app (goodIn_of _ (by decide +kernel)) ggX3_paid_X3_holds
theorem dX3_paid_0 : decode cX3_paid 0 = .ok (.aload_n 0, 1) := by decide +kernel
theorem dX3_paid_1 : decode cX3_paid 1 = .ok (.aload_n 0, 1) := by decide +kernel
theorem dX3_paid_2 : decode cX3_paid 2 = .ok (.iload_n 1, 1) := by decide +kernel
theorem dX3_paid_3 : decode cX3_paid 3 = .ok (.invokevirtual 139, 3) := by decide +kernel
theorem dX3_paid_6 : decode cX3_paid 6 = .ok (.ifCond .eq 7, 3) := by decide +kernel
theorem dX3_paid_9 : decode cX3_paid 9 = .ok (.iconst 0, 1) := by decide +kernel
theorem dX3_paid_10 : decode cX3_paid 10 = .ok (.goto 4, 3) := by decide +kernel
theorem dX3_paid_13 : decode cX3_paid 13 = .ok (.iconst 1, 1) := by decide +kernel
theorem dX3_paid_14 : decode cX3_paid 14 = .ok (.invokevirtual 84, 3) := by decide +kernel
theorem dX3_paid_17 : decode cX3_paid 17 = .ok (.ifCond .eq 12, 3) := by decide +kernel
theorem dX3_paid_20 : decode cX3_paid 20 = .ok (.aload_n 0, 1) := by decide +kernel
theorem dX3_paid_21 : decode cX3_paid 21 = .ok (.getfield 53, 3) := by decide +kernel
theorem dX3_paid_24 : decode cX3_paid 24 = .ok (.iload_n 1, 1) := by decide +kernel
theorem dX3_paid_25 : decode cX3_paid 25 = .ok (.iaload, 1) := by decide +kernel
theorem dX3_paid_26 : decode cX3_paid 26 = .ok (.goto 4, 3) := by decide +kernel
theorem dX3_paid_29 : decode cX3_paid 29 = .ok (.iconst 0, 1) := by decide +kernel
theorem dX3_paid_30 : decode cX3_paid 30 = .ok (.ireturn, 1) := by decide +kernel
