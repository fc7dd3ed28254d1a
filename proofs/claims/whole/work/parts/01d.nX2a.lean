set_option maxRecDepth 20000 in
theorem ggX2_init_X1_init : GoodIn wsX2_init wsX1_init := goodIn_r _ [22, 23, 2, 3, 10, 24, 25, 26, 39, 40, 41] (by decide +kernel) (by decide +kernel)
set_option maxRecDepth 20000 in
theorem gX2_init_X1_init_n9 : GoodIn wsX2_init (wsX1_init) := ggX2_init_X1_init
set_option maxRecDepth 20000 in
theorem ggX2_init_X0_init : GoodIn wsX2_init wsX0_init := goodIn_r _ [28, 29, 2, 3, 30, 31, 32, 33, 34, 35, 36, 37, 38, 51, 52, 53, 54, 55, 56, 57, 58, 59] (by decide +kernel) (by decide +kernel)
set_option maxRecDepth 20000 in
theorem gX2_init_X0_init_n47 : GoodIn wsX2_init (wsX0_init) := ggX2_init_X0_init
theorem dX2_init_0 : decode cX2_init 0 = .ok (.aload_n 0, 1) := by decide +kernel
theorem dX2_init_1 : decode cX2_init 1 = .ok (.invokespecial 1, 3) := by decide +kernel
theorem dX2_init_4 : decode cX2_init 4 = .ok (.aload_n 0, 1) := by decide +kernel
theorem dX2_init_5 : decode cX2_init 5 = .ok (.new 7, 3) := by decide +kernel
theorem dX2_init_8 : decode cX2_init 8 = .ok (.dup, 1) := by decide +kernel
theorem dX2_init_9 : decode cX2_init 9 = .ok (.invokespecial 9, 3) := by decide +kernel
theorem dX2_init_12 : decode cX2_init 12 = .ok (.putfield 10, 3) := by decide +kernel
theorem dX2_init_15 : decode cX2_init 15 = .ok (.aload_n 0, 1) := by decide +kernel
theorem dX2_init_16 : decode cX2_init 16 = .ok (.bipush 8, 2) := by decide +kernel
theorem dX2_init_18 : decode cX2_init 18 = .ok (.anewarray 7, 3) := by decide +kernel
theorem dX2_init_21 : decode cX2_init 21 = .ok (.putfield 16, 3) := by decide +kernel
theorem dX2_init_24 : decode cX2_init 24 = .ok (.aload_n 0, 1) := by decide +kernel
theorem dX2_init_25 : decode cX2_init 25 = .ok (.iconst 0, 1) := by decide +kernel
theorem dX2_init_26 : decode cX2_init 26 = .ok (.putfield 20, 3) := by decide +kernel
theorem dX2_init_29 : decode cX2_init 29 = .ok (.aload_n 0, 1) := by decide +kernel
theorem dX2_init_30 : decode cX2_init 30 = .ok (.bipush 64, 2) := by decide +kernel
theorem dX2_init_32 : decode cX2_init 32 = .ok (.newarray .int, 2) := by decide +kernel
theorem dX2_init_34 : decode cX2_init 34 = .ok (.putfield 24, 3) := by decide +kernel
theorem dX2_init_37 : decode cX2_init 37 = .ok (.aload_n 0, 1) := by decide +kernel
theorem dX2_init_38 : decode cX2_init 38 = .ok (.bipush 64, 2) := by decide +kernel
theorem dX2_init_40 : decode cX2_init 40 = .ok (.newarray .int, 2) := by decide +kernel
theorem dX2_init_42 : decode cX2_init 42 = .ok (.putfield 28, 3) := by decide +kernel
theorem dX2_init_45 : decode cX2_init 45 = .ok (.aload_n 0, 1) := by decide +kernel
theorem dX2_init_46 : decode cX2_init 46 = .ok (.bipush 64, 2) := by decide +kernel
theorem dX2_init_48 : decode cX2_init 48 = .ok (.newarray .boolean, 2) := by decide +kernel
theorem dX2_init_50 : decode cX2_init 50 = .ok (.putfield 31, 3) := by decide +kernel
theorem dX2_init_53 : decode cX2_init 53 = .ok (.aload_n 0, 1) := by decide +kernel
theorem dX2_init_54 : decode cX2_init 54 = .ok (.iconst 5, 1) := by decide +kernel
theorem dX2_init_55 : decode cX2_init 55 = .ok (.anewarray 35, 3) := by decide +kernel
theorem dX2_init_58 : decode cX2_init 58 = .ok (.putfield 37, 3) := by decide +kernel
theorem dX2_init_61 : decode cX2_init 61 = .ok (.aload_n 0, 1) := by decide +kernel
theorem dX2_init_62 : decode cX2_init 62 = .ok (.iconst 0, 1) := by decide +kernel
theorem dX2_init_63 : decode cX2_init 63 = .ok (.putfield 41, 3) := by decide +kernel
theorem dX2_init_66 : decode cX2_init 66 = .ok (.aload_n 0, 1) := by decide +kernel
theorem dX2_init_67 : decode cX2_init 67 = .ok (.iconst 0, 1) := by decide +kernel
theorem dX2_init_68 : decode cX2_init 68 = .ok (.putfield 44, 3) := by decide +kernel
theorem dX2_init_71 : decode cX2_init 71 = .ok (.iconst 0, 1) := by decide +kernel
theorem dX2_init_72 : decode cX2_init 72 = .ok (.istore_n 1, 1) := by decide +kernel
theorem dX2_init_73 : decode cX2_init 73 = .ok (.iload_n 1, 1) := by decide +kernel
theorem dX2_init_74 : decode cX2_init 74 = .ok (.bipush 8, 2) := by decide +kernel
theorem dX2_init_76 : decode cX2_init 76 = .ok (.if_icmp .ge 22, 3) := by decide +kernel
theorem dX2_init_79 : decode cX2_init 79 = .ok (.aload_n 0, 1) := by decide +kernel
theorem dX2_init_80 : decode cX2_init 80 = .ok (.getfield 16, 3) := by decide +kernel
theorem dX2_init_83 : decode cX2_init 83 = .ok (.iload_n 1, 1) := by decide +kernel
theorem dX2_init_84 : decode cX2_init 84 = .ok (.new 7, 3) := by decide +kernel
theorem dX2_init_87 : decode cX2_init 87 = .ok (.dup, 1) := by decide +kernel
theorem dX2_init_88 : decode cX2_init 88 = .ok (.invokespecial 9, 3) := by decide +kernel
theorem dX2_init_91 : decode cX2_init 91 = .ok (.aastore, 1) := by decide +kernel
theorem dX2_init_92 : decode cX2_init 92 = .ok (.iinc 1 1, 3) := by decide +kernel
theorem dX2_init_95 : decode cX2_init 95 = .ok (.goto (-22), 3) := by decide +kernel
theorem dX2_init_98 : decode cX2_init 98 = .ok (.iconst 0, 1) := by decide +kernel
theorem dX2_init_99 : decode cX2_init 99 = .ok (.istore_n 1, 1) := by decide +kernel
theorem dX2_init_100 : decode cX2_init 100 = .ok (.iload_n 1, 1) := by decide +kernel
theorem dX2_init_101 : decode cX2_init 101 = .ok (.iconst 5, 1) := by decide +kernel
theorem dX2_init_102 : decode cX2_init 102 = .ok (.if_icmp .ge 22, 3) := by decide +kernel
theorem dX2_init_105 : decode cX2_init 105 = .ok (.aload_n 0, 1) := by decide +kernel
theorem dX2_init_106 : decode cX2_init 106 = .ok (.getfield 37, 3) := by decide +kernel
theorem dX2_init_109 : decode cX2_init 109 = .ok (.iload_n 1, 1) := by decide +kernel
theorem dX2_init_110 : decode cX2_init 110 = .ok (.new 35, 3) := by decide +kernel
theorem dX2_init_113 : decode cX2_init 113 = .ok (.dup, 1) := by decide +kernel
theorem dX2_init_114 : decode cX2_init 114 = .ok (.invokespecial 47, 3) := by decide +kernel
theorem dX2_init_117 : decode cX2_init 117 = .ok (.aastore, 1) := by decide +kernel
theorem dX2_init_118 : decode cX2_init 118 = .ok (.iinc 1 1, 3) := by decide +kernel
theorem dX2_init_121 : decode cX2_init 121 = .ok (.goto (-21), 3) := by decide +kernel
theorem dX2_init_124 : decode cX2_init 124 = .ok (.return_, 1) := by decide +kernel
set_option maxRecDepth 20000 in
theorem ggX2_draft_X2_demandPlace : GoodIn wsX2_draft wsX2_demandPlace := goodIn_ca (goodIn_r _ [7, 8, 9] (by decide +kernel) (by decide +kernel)) (goodIn_sub (fun _ h => List.mem_cons_of_mem _ (List.mem_append_right _ h)) (by decide +kernel))
set_option maxRecDepth 20000 in
theorem gX2_draft_X2_demandPlace : GoodIn wsX2_draft (va_wsS RX2 48 yX2_demandPlace wsX2_demandPlace) := goodIn_app (goodIn_of _ (by decide +kernel)) ggX2_draft_X2_demandPlace
set_option maxRecDepth 20000 in
theorem ggX2_draft_X1_isAt : GoodIn wsX2_draft wsX1_isAt := goodIn_r _ [13, 14, 15, 16, 29, 30, 31] (by decide +kernel) (by decide +kernel)
set_option maxRecDepth 20000 in
theorem gX2_draft_X1_isAt_n55 : GoodIn wsX2_draft (wsX1_isAt) := ggX2_draft_X1_isAt
set_option maxRecDepth 20000 in
theorem ggX2_draft_X1_add : GoodIn wsX2_draft wsX1_add := goodIn_r _ [19, 15, 14, 16, 29, 30, 31] (by decide +kernel) (by decide +kernel)
set_option maxRecDepth 20000 in
theorem gX2_draft_X1_add_n66 : GoodIn wsX2_draft (wsX1_add) := ggX2_draft_X1_add
theorem dX2_draft_0 : decode cX2_draft 0 = .ok (.iload_n 1, 1) := by decide +kernel
theorem dX2_draft_1 : decode cX2_draft 1 = .ok (.iload_n 2, 1) := by decide +kernel
theorem dX2_draft_2 : decode cX2_draft 2 = .ok (.invokestatic 48, 3) := by decide +kernel
theorem dX2_draft_5 : decode cX2_draft 5 = .ok (.aload_n 0, 1) := by decide +kernel
theorem dX2_draft_6 : decode cX2_draft 6 = .ok (.getfield 10, 3) := by decide +kernel
theorem dX2_draft_9 : decode cX2_draft 9 = .ok (.getfield 52, 3) := by decide +kernel
theorem dX2_draft_12 : decode cX2_draft 12 = .ok (.bipush 8, 2) := by decide +kernel
theorem dX2_draft_14 : decode cX2_draft 14 = .ok (.if_icmp .ge 24, 3) := by decide +kernel
theorem dX2_draft_17 : decode cX2_draft 17 = .ok (.aload_n 0, 1) := by decide +kernel
theorem dX2_draft_18 : decode cX2_draft 18 = .ok (.getfield 10, 3) := by decide +kernel
theorem dX2_draft_21 : decode cX2_draft 21 = .ok (.aload_n 0, 1) := by decide +kernel
theorem dX2_draft_22 : decode cX2_draft 22 = .ok (.getfield 10, 3) := by decide +kernel
theorem dX2_draft_25 : decode cX2_draft 25 = .ok (.getfield 52, 3) := by decide +kernel
theorem dX2_draft_28 : decode cX2_draft 28 = .ok (.iconst 1, 1) := by decide +kernel
theorem dX2_draft_29 : decode cX2_draft 29 = .ok (.isub, 1) := by decide +kernel
theorem dX2_draft_30 : decode cX2_draft 30 = .ok (.iload_n 1, 1) := by decide +kernel
theorem dX2_draft_31 : decode cX2_draft 31 = .ok (.iload_n 2, 1) := by decide +kernel
theorem dX2_draft_32 : decode cX2_draft 32 = .ok (.invokevirtual 55, 3) := by decide +kernel
theorem dX2_draft_35 : decode cX2_draft 35 = .ok (.ifCond .eq 13, 3) := by decide +kernel
theorem dX2_draft_38 : decode cX2_draft 38 = .ok (.new 59, 3) := by decide +kernel
theorem dX2_draft_41 : decode cX2_draft 41 = .ok (.dup, 1) := by decide +kernel
theorem dX2_draft_42 : decode cX2_draft 42 = .ok (.ldc 61, 2) := by decide +kernel
theorem dX2_draft_44 : decode cX2_draft 44 = .ok (.invokespecial 63, 3) := by decide +kernel
theorem dX2_draft_47 : decode cX2_draft 47 = .ok (.athrow, 1) := by decide +kernel
theorem dX2_draft_48 : decode cX2_draft 48 = .ok (.aload_n 0, 1) := by decide +kernel
theorem dX2_draft_49 : decode cX2_draft 49 = .ok (.getfield 10, 3) := by decide +kernel
theorem dX2_draft_52 : decode cX2_draft 52 = .ok (.iload_n 1, 1) := by decide +kernel
theorem dX2_draft_53 : decode cX2_draft 53 = .ok (.iload_n 2, 1) := by decide +kernel
theorem dX2_draft_54 : decode cX2_draft 54 = .ok (.invokevirtual 66, 3) := by decide +kernel
theorem dX2_draft_57 : decode cX2_draft 57 = .ok (.aload_n 0, 1) := by decide +kernel
theorem dX2_draft_58 : decode cX2_draft 58 = .ok (.getfield 10, 3) := by decide +kernel
theorem dX2_draft_61 : decode cX2_draft 61 = .ok (.getfield 52, 3) := by decide +kernel
theorem dX2_draft_64 : decode cX2_draft 64 = .ok (.ireturn, 1) := by decide +kernel
set_option maxRecDepth 20000 in
theorem ggX2_lay_X1_takeAllOf : GoodIn wsX2_lay wsX1_takeAllOf := goodIn_r _ [9, 10, 11, 12, 13, 14, 15, 16, 96, 97, 98] (by decide +kernel) (by decide +kernel)
set_option maxRecDepth 20000 in
theorem gX2_lay_X1_takeAllOf_n71 : GoodIn wsX2_lay (wsX1_takeAllOf) := ggX2_lay_X1_takeAllOf
set_option maxRecDepth 20000 in
theorem ggX2_lay_X2_recount : GoodIn wsX2_lay wsX2_recount := goodIn_r _ [21, 22, 5, 23, 24, 25, 20, 26, 27, 28, 29, 30, 31, 32, 33, 34, 35, 36, 37, 7, 38, 39, 16, 40, 41, 42, 43, 44, 45, 46, 10, 47, 48, 49, 50, 51, 15, 52, 53, 54, 55, 56, 57, 58, 59, 60, 61, 62, 63, 64, 65, 66, 67, 68, 69, 70, 71, 72, 73, 74, 75, 76, 77, 78, 79, 80, 81, 82, 83, 84, 85, 86, 87, 88, 89, 90, 91, 92, 93, 94, 95, 96, 97, 98] (by decide +kernel) (by decide +kernel)
set_option maxRecDepth 20000 in
theorem gX2_lay_X2_recount : GoodIn wsX2_lay (wsV RX2 75 RX2 yX2_recount wsX2_recount) := goodIn_app (goodIn_of _ (by decide +kernel)) ggX2_lay_X2_recount
theorem dX2_lay_0 : decode cX2_lay 0 = .ok (.aload_n 0, 1) := by decide +kernel
theorem dX2_lay_1 : decode cX2_lay 1 = .ok (.getfield 10, 3) := by decide +kernel
theorem dX2_lay_4 : decode cX2_lay 4 = .ok (.getfield 52, 3) := by decide +kernel
theorem dX2_lay_7 : decode cX2_lay 7 = .ok (.iconst 2, 1) := by decide +kernel
theorem dX2_lay_8 : decode cX2_lay 8 = .ok (.if_icmp .lt 12, 3) := by decide +kernel
theorem dX2_lay_11 : decode cX2_lay 11 = .ok (.aload_n 0, 1) := by decide +kernel
theorem dX2_lay_12 : decode cX2_lay 12 = .ok (.getfield 20, 3) := by decide +kernel
theorem dX2_lay_15 : decode cX2_lay 15 = .ok (.bipush 8, 2) := by decide +kernel
theorem dX2_lay_17 : decode cX2_lay 17 = .ok (.if_icmp .lt 13, 3) := by decide +kernel
theorem dX2_lay_20 : decode cX2_lay 20 = .ok (.new 59, 3) := by decide +kernel
theorem dX2_lay_23 : decode cX2_lay 23 = .ok (.dup, 1) := by decide +kernel
theorem dX2_lay_24 : decode cX2_lay 24 = .ok (.ldc 69, 2) := by decide +kernel
theorem dX2_lay_26 : decode cX2_lay 26 = .ok (.invokespecial 63, 3) := by decide +kernel
theorem dX2_lay_29 : decode cX2_lay 29 = .ok (.athrow, 1) := by decide +kernel
theorem dX2_lay_30 : decode cX2_lay 30 = .ok (.aload_n 0, 1) := by decide +kernel
theorem dX2_lay_31 : decode cX2_lay 31 = .ok (.getfield 20, 3) := by decide +kernel
theorem dX2_lay_34 : decode cX2_lay 34 = .ok (.istore_n 1, 1) := by decide +kernel
theorem dX2_lay_35 : decode cX2_lay 35 = .ok (.aload_n 0, 1) := by decide +kernel
theorem dX2_lay_36 : decode cX2_lay 36 = .ok (.getfield 16, 3) := by decide +kernel
theorem dX2_lay_39 : decode cX2_lay 39 = .ok (.iload_n 1, 1) := by decide +kernel
theorem dX2_lay_40 : decode cX2_lay 40 = .ok (.aaload, 1) := by decide +kernel
theorem dX2_lay_41 : decode cX2_lay 41 = .ok (.aload_n 0, 1) := by decide +kernel
theorem dX2_lay_42 : decode cX2_lay 42 = .ok (.getfield 10, 3) := by decide +kernel
theorem dX2_lay_45 : decode cX2_lay 45 = .ok (.invokevirtual 71, 3) := by decide +kernel
theorem dX2_lay_48 : decode cX2_lay 48 = .ok (.aload_n 0, 1) := by decide +kernel
theorem dX2_lay_49 : decode cX2_lay 49 = .ok (.getfield 10, 3) := by decide +kernel
theorem dX2_lay_52 : decode cX2_lay 52 = .ok (.iconst 0, 1) := by decide +kernel
theorem dX2_lay_53 : decode cX2_lay 53 = .ok (.putfield 52, 3) := by decide +kernel
theorem dX2_lay_56 : decode cX2_lay 56 = .ok (.aload_n 0, 1) := by decide +kernel
theorem dX2_lay_57 : decode cX2_lay 57 = .ok (.dup, 1) := by decide +kernel
theorem dX2_lay_58 : decode cX2_lay 58 = .ok (.getfield 20, 3) := by decide +kernel
theorem dX2_lay_61 : decode cX2_lay 61 = .ok (.iconst 1, 1) := by decide +kernel
theorem dX2_lay_62 : decode cX2_lay 62 = .ok (.iadd, 1) := by decide +kernel
theorem dX2_lay_63 : decode cX2_lay 63 = .ok (.putfield 20, 3) := by decide +kernel
theorem dX2_lay_66 : decode cX2_lay 66 = .ok (.iconst 0, 1) := by decide +kernel
theorem dX2_lay_67 : decode cX2_lay 67 = .ok (.istore_n 2, 1) := by decide +kernel
theorem dX2_lay_68 : decode cX2_lay 68 = .ok (.iload_n 2, 1) := by decide +kernel
theorem dX2_lay_69 : decode cX2_lay 69 = .ok (.iload_n 1, 1) := by decide +kernel
theorem dX2_lay_70 : decode cX2_lay 70 = .ok (.if_icmp .ge 15, 3) := by decide +kernel
theorem dX2_lay_73 : decode cX2_lay 73 = .ok (.aload_n 0, 1) := by decide +kernel
theorem dX2_lay_74 : decode cX2_lay 74 = .ok (.iload_n 1, 1) := by decide +kernel
theorem dX2_lay_75 : decode cX2_lay 75 = .ok (.iload_n 2, 1) := by decide +kernel
theorem dX2_lay_76 : decode cX2_lay 76 = .ok (.invokevirtual 75, 3) := by decide +kernel
theorem dX2_lay_79 : decode cX2_lay 79 = .ok (.iinc 2 1, 3) := by decide +kernel
theorem dX2_lay_82 : decode cX2_lay 82 = .ok (.goto (-14), 3) := by decide +kernel
theorem dX2_lay_85 : decode cX2_lay 85 = .ok (.iload_n 1, 1) := by decide +kernel
theorem dX2_lay_86 : decode cX2_lay 86 = .ok (.ireturn, 1) := by decide +kernel
set_option maxRecDepth 20000 in
theorem ggX2_move_X2_demandPoint : GoodIn wsX2_move wsX2_demandPoint := goodIn_ca (goodIn_r _ [9, 10, 11, 3, 12, 13, 14, 8, 15, 4, 106, 107, 108, 109, 110, 111, 112, 113, 114, 115, 116, 117] (by decide +kernel) (by decide +kernel)) (goodIn_sub (fun _ h => List.mem_cons_of_mem _ (List.mem_append_left _ (List.mem_append_right _ h))) (by decide +kernel))
set_option maxRecDepth 20000 in
theorem gX2_move_X2_demandPoint : GoodIn wsX2_move (wsV RX2 78 RX2 yX2_demandPoint wsX2_demandPoint) := goodIn_app (goodIn_of _ (by decide +kernel)) ggX2_move_X2_demandPoint
set_option maxRecDepth 20000 in
theorem ggX2_move_X2_demandPlace : GoodIn wsX2_move wsX2_demandPlace := goodIn_ca (goodIn_r _ [18, 19, 20] (by decide +kernel) (by decide +kernel)) (goodIn_sub (fun _ h => List.mem_cons_of_mem _ (List.mem_append_right _ h)) (by decide +kernel))
set_option maxRecDepth 20000 in
theorem gX2_move_X2_demandPlace : GoodIn wsX2_move (va_wsS RX2 48 yX2_demandPlace wsX2_demandPlace) := goodIn_app (goodIn_of _ (by decide +kernel)) ggX2_move_X2_demandPlace
set_option maxRecDepth 20000 in
theorem ggX2_move_X1_isAt : GoodIn wsX2_move wsX1_isAt := goodIn_r _ [24, 25, 26, 27, 115, 116, 117] (by decide +kernel) (by decide +kernel)
set_option maxRecDepth 20000 in
theorem gX2_move_X1_isAt_n55 : GoodIn wsX2_move (wsX1_isAt) := ggX2_move_X1_isAt
set_option maxRecDepth 20000 in
theorem ggX2_move_X2_recount : GoodIn wsX2_move wsX2_recount := goodIn_r _ [31, 32, 3, 33, 34, 35, 8, 36, 37, 38, 39, 40, 41, 42, 43, 44, 45, 46, 47, 22, 48, 49, 25, 50, 51, 52, 53, 54, 55, 56, 26, 57, 58, 59, 60, 61, 27, 62, 63, 64, 65, 66, 67, 68, 69, 70, 71, 72, 73, 74, 75, 76, 77, 78, 79, 80, 81, 82, 83, 84, 85, 86, 87, 88, 89, 90, 91, 92, 93, 94, 95, 96, 106, 107, 108, 109, 110, 111, 112, 113, 114, 115, 116, 117] (by decide +kernel) (by decide +kernel)
set_option maxRecDepth 20000 in
theorem gX2_move_X2_recount : GoodIn wsX2_move (wsV RX2 75 RX2 yX2_recount wsX2_recount) := goodIn_app (goodIn_of _ (by decide +kernel)) ggX2_move_X2_recount
set_option maxRecDepth 20000 in
theorem ggX2_move_X2_dropIfNotWell : GoodIn wsX2_move wsX2_dropIfNotWell := goodIn_r _ [100, 101, 34, 35, 8, 36, 37, 38, 39, 40, 41, 42, 43, 102, 103, 104, 105, 32, 33, 106, 107, 108, 109, 110, 111, 112, 113, 114] (by decide +kernel) (by decide +kernel)
set_option maxRecDepth 20000 in
theorem gX2_move_X2_dropIfNotWell : GoodIn wsX2_move (wsV RX2 89 RX2 yX2_dropIfNotWell wsX2_dropIfNotWell) := goodIn_app (goodIn_of _ (by decide +kernel)) ggX2_move_X2_dropIfNotWell
theorem dX2_move_0 : decode cX2_move 0 = .ok (.aload_n 0, 1) := by decide +kernel
theorem dX2_move_1 : decode cX2_move 1 = .ok (.iload_n 1, 1) := by decide +kernel
theorem dX2_move_2 : decode cX2_move 2 = .ok (.iload_n 2, 1) := by decide +kernel
theorem dX2_move_3 : decode cX2_move 3 = .ok (.invokevirtual 78, 3) := by decide +kernel
theorem dX2_move_6 : decode cX2_move 6 = .ok (.iload_n 3, 1) := by decide +kernel
theorem dX2_move_7 : decode cX2_move 7 = .ok (.iload 4, 2) := by decide +kernel
theorem dX2_move_9 : decode cX2_move 9 = .ok (.invokestatic 48, 3) := by decide +kernel
theorem dX2_move_12 : decode cX2_move 12 = .ok (.aload_n 0, 1) := by decide +kernel
theorem dX2_move_13 : decode cX2_move 13 = .ok (.getfield 16, 3) := by decide +kernel
theorem dX2_move_16 : decode cX2_move 16 = .ok (.iload_n 1, 1) := by decide +kernel
theorem dX2_move_17 : decode cX2_move 17 = .ok (.aaload, 1) := by decide +kernel
theorem dX2_move_18 : decode cX2_move 18 = .ok (.astore 5, 2) := by decide +kernel
theorem dX2_move_20 : decode cX2_move 20 = .ok (.aload 5, 2) := by decide +kernel
theorem dX2_move_22 : decode cX2_move 22 = .ok (.iload_n 2, 1) := by decide +kernel
theorem dX2_move_23 : decode cX2_move 23 = .ok (.iconst 1, 1) := by decide +kernel
theorem dX2_move_24 : decode cX2_move 24 = .ok (.isub, 1) := by decide +kernel
theorem dX2_move_25 : decode cX2_move 25 = .ok (.iload_n 3, 1) := by decide +kernel
theorem dX2_move_26 : decode cX2_move 26 = .ok (.iload 4, 2) := by decide +kernel
theorem dX2_move_28 : decode cX2_move 28 = .ok (.invokevirtual 55, 3) := by decide +kernel
theorem dX2_move_31 : decode cX2_move 31 = .ok (.ifCond .ne 17, 3) := by decide +kernel
theorem dX2_move_34 : decode cX2_move 34 = .ok (.aload 5, 2) := by decide +kernel
theorem dX2_move_36 : decode cX2_move 36 = .ok (.iload_n 2, 1) := by decide +kernel
theorem dX2_move_37 : decode cX2_move 37 = .ok (.iconst 1, 1) := by decide +kernel
theorem dX2_move_38 : decode cX2_move 38 = .ok (.iadd, 1) := by decide +kernel
theorem dX2_move_39 : decode cX2_move 39 = .ok (.iload_n 3, 1) := by decide +kernel
theorem dX2_move_40 : decode cX2_move 40 = .ok (.iload 4, 2) := by decide +kernel
theorem dX2_move_42 : decode cX2_move 42 = .ok (.invokevirtual 55, 3) := by decide +kernel
theorem dX2_move_45 : decode cX2_move 45 = .ok (.ifCond .eq 13, 3) := by decide +kernel
theorem dX2_move_48 : decode cX2_move 48 = .ok (.new 59, 3) := by decide +kernel
theorem dX2_move_51 : decode cX2_move 51 = .ok (.dup, 1) := by decide +kernel
theorem dX2_move_52 : decode cX2_move 52 = .ok (.ldc 81, 2) := by decide +kernel
theorem dX2_move_54 : decode cX2_move 54 = .ok (.invokespecial 63, 3) := by decide +kernel
theorem dX2_move_57 : decode cX2_move 57 = .ok (.athrow, 1) := by decide +kernel
theorem dX2_move_58 : decode cX2_move 58 = .ok (.aload 5, 2) := by decide +kernel
theorem dX2_move_60 : decode cX2_move 60 = .ok (.getfield 83, 3) := by decide +kernel
theorem dX2_move_63 : decode cX2_move 63 = .ok (.iload_n 2, 1) := by decide +kernel
theorem dX2_move_64 : decode cX2_move 64 = .ok (.iload_n 3, 1) := by decide +kernel
theorem dX2_move_65 : decode cX2_move 65 = .ok (.iastore, 1) := by decide +kernel
theorem dX2_move_66 : decode cX2_move 66 = .ok (.aload 5, 2) := by decide +kernel
theorem dX2_move_68 : decode cX2_move 68 = .ok (.getfield 86, 3) := by decide +kernel
theorem dX2_move_71 : decode cX2_move 71 = .ok (.iload_n 2, 1) := by decide +kernel
theorem dX2_move_72 : decode cX2_move 72 = .ok (.iload 4, 2) := by decide +kernel
theorem dX2_move_74 : decode cX2_move 74 = .ok (.iastore, 1) := by decide +kernel
theorem dX2_move_75 : decode cX2_move 75 = .ok (.iconst 0, 1) := by decide +kernel
theorem dX2_move_76 : decode cX2_move 76 = .ok (.istore 6, 2) := by decide +kernel
theorem dX2_move_78 : decode cX2_move 78 = .ok (.iconst 0, 1) := by decide +kernel
theorem dX2_move_79 : decode cX2_move 79 = .ok (.istore 7, 2) := by decide +kernel
theorem dX2_move_81 : decode cX2_move 81 = .ok (.iload 7, 2) := by decide +kernel
theorem dX2_move_83 : decode cX2_move 83 = .ok (.aload_n 0, 1) := by decide +kernel
theorem dX2_move_84 : decode cX2_move 84 = .ok (.getfield 20, 3) := by decide +kernel
theorem dX2_move_87 : decode cX2_move 87 = .ok (.if_icmp .ge 34, 3) := by decide +kernel
theorem dX2_move_90 : decode cX2_move 90 = .ok (.iload 7, 2) := by decide +kernel
theorem dX2_move_92 : decode cX2_move 92 = .ok (.iload_n 1, 1) := by decide +kernel
theorem dX2_move_93 : decode cX2_move 93 = .ok (.if_icmp .eq 22, 3) := by decide +kernel
theorem dX2_move_96 : decode cX2_move 96 = .ok (.aload_n 0, 1) := by decide +kernel
theorem dX2_move_97 : decode cX2_move 97 = .ok (.iload_n 1, 1) := by decide +kernel
theorem dX2_move_98 : decode cX2_move 98 = .ok (.iload 7, 2) := by decide +kernel
theorem dX2_move_100 : decode cX2_move 100 = .ok (.invokevirtual 75, 3) := by decide +kernel
theorem dX2_move_103 : decode cX2_move 103 = .ok (.iload 6, 2) := by decide +kernel
theorem dX2_move_105 : decode cX2_move 105 = .ok (.aload_n 0, 1) := by decide +kernel
theorem dX2_move_106 : decode cX2_move 106 = .ok (.iload_n 1, 1) := by decide +kernel
theorem dX2_move_107 : decode cX2_move 107 = .ok (.iload 7, 2) := by decide +kernel
theorem dX2_move_109 : decode cX2_move 109 = .ok (.invokevirtual 89, 3) := by decide +kernel
theorem dX2_move_112 : decode cX2_move 112 = .ok (.iadd, 1) := by decide +kernel
theorem dX2_move_113 : decode cX2_move 113 = .ok (.istore 6, 2) := by decide +kernel
theorem dX2_move_115 : decode cX2_move 115 = .ok (.iinc 7 1, 3) := by decide +kernel
theorem dX2_move_118 : decode cX2_move 118 = .ok (.goto (-37), 3) := by decide +kernel
theorem dX2_move_121 : decode cX2_move 121 = .ok (.iload 6, 2) := by decide +kernel
theorem dX2_move_123 : decode cX2_move 123 = .ok (.ireturn, 1) := by decide +kernel
theorem dX2_cables_0 : decode cX2_cables 0 = .ok (.aload_n 0, 1) := by decide +kernel
theorem dX2_cables_1 : decode cX2_cables 1 = .ok (.getfield 20, 3) := by decide +kernel
theorem dX2_cables_4 : decode cX2_cables 4 = .ok (.ireturn, 1) := by decide +kernel
set_option maxRecDepth 20000 in
theorem ggX2_point_X2_demandPoint : GoodIn wsX2_point wsX2_demandPoint := goodIn_ca (goodIn_r _ [6, 7, 8, 1, 9, 10, 11, 5, 12, 13, 14, 15, 16, 17, 18, 19, 20, 21, 22, 23, 24, 25] (by decide +kernel) (by decide +kernel)) (goodIn_sub (fun _ h => List.mem_cons_of_mem _ (List.mem_append_right _ h)) (by decide +kernel))
set_option maxRecDepth 20000 in
theorem gX2_point_X2_demandPoint : GoodIn wsX2_point (wsV RX2 78 RX2 yX2_demandPoint wsX2_demandPoint) := goodIn_app (goodIn_of _ (by decide +kernel)) ggX2_point_X2_demandPoint
theorem dX2_point_0 : decode cX2_point 0 = .ok (.aload_n 0, 1) := by decide +kernel
theorem dX2_point_1 : decode cX2_point 1 = .ok (.iload_n 1, 1) := by decide +kernel
theorem dX2_point_2 : decode cX2_point 2 = .ok (.iload_n 2, 1) := by decide +kernel
theorem dX2_point_3 : decode cX2_point 3 = .ok (.invokevirtual 78, 3) := by decide +kernel
theorem dX2_point_6 : decode cX2_point 6 = .ok (.bipush 100, 2) := by decide +kernel
theorem dX2_point_8 : decode cX2_point 8 = .ok (.aload_n 0, 1) := by decide +kernel
theorem dX2_point_9 : decode cX2_point 9 = .ok (.getfield 16, 3) := by decide +kernel
theorem dX2_point_12 : decode cX2_point 12 = .ok (.iload_n 1, 1) := by decide +kernel
theorem dX2_point_13 : decode cX2_point 13 = .ok (.aaload, 1) := by decide +kernel
theorem dX2_point_14 : decode cX2_point 14 = .ok (.getfield 83, 3) := by decide +kernel
theorem dX2_point_17 : decode cX2_point 17 = .ok (.iload_n 2, 1) := by decide +kernel
theorem dX2_point_18 : decode cX2_point 18 = .ok (.iaload, 1) := by decide +kernel
theorem dX2_point_19 : decode cX2_point 19 = .ok (.imul, 1) := by decide +kernel
theorem dX2_point_20 : decode cX2_point 20 = .ok (.aload_n 0, 1) := by decide +kernel
theorem dX2_point_21 : decode cX2_point 21 = .ok (.getfield 16, 3) := by decide +kernel
theorem dX2_point_24 : decode cX2_point 24 = .ok (.iload_n 1, 1) := by decide +kernel
theorem dX2_point_25 : decode cX2_point 25 = .ok (.aaload, 1) := by decide +kernel
theorem dX2_point_26 : decode cX2_point 26 = .ok (.getfield 86, 3) := by decide +kernel
theorem dX2_point_29 : decode cX2_point 29 = .ok (.iload_n 2, 1) := by decide +kernel
theorem dX2_point_30 : decode cX2_point 30 = .ok (.iaload, 1) := by decide +kernel
theorem dX2_point_31 : decode cX2_point 31 = .ok (.iadd, 1) := by decide +kernel
theorem dX2_point_32 : decode cX2_point 32 = .ok (.ireturn, 1) := by decide +kernel
set_option maxRecDepth 20000 in
theorem ggX2_crossings_X2_demandCables : GoodIn wsX2_crossings wsX2_demandCables := goodIn_ca (goodIn_r _ [6, 7, 8, 9, 5, 10, 11, 12, 13, 24, 25, 26, 27, 28, 29, 30, 31, 32] (by decide +kernel) (by decide +kernel)) (goodIn_sub (fun _ h => List.mem_cons_of_mem _ (List.mem_append_right _ h)) (by decide +kernel))
set_option maxRecDepth 20000 in
theorem gX2_crossings_X2_demandCables : GoodIn wsX2_crossings (wsV RX2 93 RX2 yX2_demandCables wsX2_demandCables) := goodIn_app (goodIn_of _ (by decide +kernel)) ggX2_crossings_X2_demandCables
set_option maxRecDepth 20000 in
theorem ggX2_crossings_X2_pairOf : GoodIn wsX2_crossings wsX2_pairOf := goodIn_r _ [16, 17, 18, 19, 20, 21, 22, 23] (by decide +kernel) (by decide +kernel)
set_option maxRecDepth 20000 in
theorem gX2_crossings_X2_pairOf : GoodIn wsX2_crossings (va_wsS RX2 96 yX2_pairOf wsX2_pairOf) := goodIn_app (goodIn_of _ (by decide +kernel)) ggX2_crossings_X2_pairOf
theorem dX2_crossings_0 : decode cX2_crossings 0 = .ok (.aload_n 0, 1) := by decide +kernel
theorem dX2_crossings_1 : decode cX2_crossings 1 = .ok (.iload_n 1, 1) := by decide +kernel
theorem dX2_crossings_2 : decode cX2_crossings 2 = .ok (.iload_n 2, 1) := by decide +kernel
theorem dX2_crossings_3 : decode cX2_crossings 3 = .ok (.invokevirtual 93, 3) := by decide +kernel
theorem dX2_crossings_6 : decode cX2_crossings 6 = .ok (.aload_n 0, 1) := by decide +kernel
theorem dX2_crossings_7 : decode cX2_crossings 7 = .ok (.getfield 24, 3) := by decide +kernel
theorem dX2_crossings_10 : decode cX2_crossings 10 = .ok (.iload_n 1, 1) := by decide +kernel
theorem dX2_crossings_11 : decode cX2_crossings 11 = .ok (.iload_n 2, 1) := by decide +kernel
theorem dX2_crossings_12 : decode cX2_crossings 12 = .ok (.invokestatic 96, 3) := by decide +kernel
theorem dX2_crossings_15 : decode cX2_crossings 15 = .ok (.iaload, 1) := by decide +kernel
theorem dX2_crossings_16 : decode cX2_crossings 16 = .ok (.ireturn, 1) := by decide +kernel
set_option maxRecDepth 20000 in
theorem ggX2_crossingsAnew_X2_demandCables : GoodIn wsX2_crossingsAnew wsX2_demandCables := goodIn_ca (goodIn_r _ [6, 7, 8, 9, 5, 10, 11, 12, 13, 76, 77, 78, 79, 80, 81, 82, 83, 84] (by decide +kernel) (by decide +kernel)) (goodIn_sub (fun _ h => List.mem_cons_of_mem _ (List.mem_append_right _ h)) (by decide +kernel))
set_option maxRecDepth 20000 in
theorem gX2_crossingsAnew_X2_demandCables : GoodIn wsX2_crossingsAnew (wsV RX2 93 RX2 yX2_demandCables wsX2_demandCables) := goodIn_app (goodIn_of _ (by decide +kernel)) ggX2_crossingsAnew_X2_demandCables
set_option maxRecDepth 20000 in
theorem ggX2_crossingsAnew_X2_countCrossings : GoodIn wsX2_crossingsAnew wsX2_countCrossings := goodIn_r _ [16, 17, 18, 19, 20, 21, 22, 23, 24, 25, 26, 27, 28, 29, 30, 31, 32, 33, 34, 35, 36, 37, 38, 39, 40, 41, 42, 43, 44, 45, 46, 47, 48, 49, 50, 51, 52, 53, 54, 55, 56, 57, 58, 59, 60, 61, 62, 63, 64, 65, 66, 67, 68, 69, 70, 71, 72, 73, 74, 75, 85, 86, 87] (by decide +kernel) (by decide +kernel)
set_option maxRecDepth 20000 in
theorem gX2_crossingsAnew_X2_countCrossings : GoodIn wsX2_crossingsAnew (va_wsS RX2 99 yX2_countCrossings wsX2_countCrossings) := goodIn_app (goodIn_of _ (by decide +kernel)) ggX2_crossingsAnew_X2_countCrossings
theorem dX2_crossingsAnew_0 : decode cX2_crossingsAnew 0 = .ok (.aload_n 0, 1) := by decide +kernel
theorem dX2_crossingsAnew_1 : decode cX2_crossingsAnew 1 = .ok (.iload_n 1, 1) := by decide +kernel
theorem dX2_crossingsAnew_2 : decode cX2_crossingsAnew 2 = .ok (.iload_n 2, 1) := by decide +kernel
theorem dX2_crossingsAnew_3 : decode cX2_crossingsAnew 3 = .ok (.invokevirtual 93, 3) := by decide +kernel
theorem dX2_crossingsAnew_6 : decode cX2_crossingsAnew 6 = .ok (.iload_n 1, 1) := by decide +kernel
theorem dX2_crossingsAnew_7 : decode cX2_crossingsAnew 7 = .ok (.iload_n 2, 1) := by decide +kernel
theorem dX2_crossingsAnew_8 : decode cX2_crossingsAnew 8 = .ok (.if_icmp .ne 7, 3) := by decide +kernel
theorem dX2_crossingsAnew_11 : decode cX2_crossingsAnew 11 = .ok (.iconst 0, 1) := by decide +kernel
theorem dX2_crossingsAnew_12 : decode cX2_crossingsAnew 12 = .ok (.goto 19, 3) := by decide +kernel
theorem dX2_crossingsAnew_15 : decode cX2_crossingsAnew 15 = .ok (.aload_n 0, 1) := by decide +kernel
theorem dX2_crossingsAnew_16 : decode cX2_crossingsAnew 16 = .ok (.getfield 16, 3) := by decide +kernel
theorem dX2_crossingsAnew_19 : decode cX2_crossingsAnew 19 = .ok (.iload_n 1, 1) := by decide +kernel
theorem dX2_crossingsAnew_20 : decode cX2_crossingsAnew 20 = .ok (.aaload, 1) := by decide +kernel
theorem dX2_crossingsAnew_21 : decode cX2_crossingsAnew 21 = .ok (.aload_n 0, 1) := by decide +kernel
theorem dX2_crossingsAnew_22 : decode cX2_crossingsAnew 22 = .ok (.getfield 16, 3) := by decide +kernel
theorem dX2_crossingsAnew_25 : decode cX2_crossingsAnew 25 = .ok (.iload_n 2, 1) := by decide +kernel
theorem dX2_crossingsAnew_26 : decode cX2_crossingsAnew 26 = .ok (.aaload, 1) := by decide +kernel
theorem dX2_crossingsAnew_27 : decode cX2_crossingsAnew 27 = .ok (.iconst 0, 1) := by decide +kernel
theorem dX2_crossingsAnew_28 : decode cX2_crossingsAnew 28 = .ok (.invokestatic 99, 3) := by decide +kernel
theorem dX2_crossingsAnew_31 : decode cX2_crossingsAnew 31 = .ok (.ireturn, 1) := by decide +kernel
set_option maxRecDepth 20000 in
theorem ggX2_isWell_X2_demandCables : GoodIn wsX2_isWell wsX2_demandCables := goodIn_ca (goodIn_r _ [5, 6, 7, 8, 4, 9, 10, 11, 12, 29, 30, 31, 32, 33, 34, 35, 36, 37] (by decide +kernel) (by decide +kernel)) (goodIn_sub (fun _ h => List.mem_cons_of_mem _ (List.mem_append_right _ h)) (by decide +kernel))
set_option maxRecDepth 20000 in
theorem gX2_isWell_X2_demandCables : GoodIn wsX2_isWell (wsV RX2 93 RX2 yX2_demandCables wsX2_demandCables) := goodIn_app (goodIn_of _ (by decide +kernel)) ggX2_isWell_X2_demandCables
set_option maxRecDepth 20000 in
theorem ggX2_isWell_X2_crossWell : GoodIn wsX2_isWell wsX2_crossWell := goodIn_r _ [16, 17, 18, 19, 20, 4, 21, 22, 23, 24, 25, 26, 27, 28, 29, 30, 31, 32, 33, 34, 35, 36, 37] (by decide +kernel) (by decide +kernel)
set_option maxRecDepth 20000 in
theorem gX2_isWell_X2_crossWell : GoodIn wsX2_isWell (wsV RX2 103 RX2 yX2_crossWell wsX2_crossWell) := goodIn_app (goodIn_of _ (by decide +kernel)) ggX2_isWell_X2_crossWell
theorem dX2_isWell_0 : decode cX2_isWell 0 = .ok (.aload_n 0, 1) := by decide +kernel
theorem dX2_isWell_1 : decode cX2_isWell 1 = .ok (.iload_n 1, 1) := by decide +kernel
theorem dX2_isWell_2 : decode cX2_isWell 2 = .ok (.iload_n 2, 1) := by decide +kernel
theorem dX2_isWell_3 : decode cX2_isWell 3 = .ok (.invokevirtual 93, 3) := by decide +kernel
theorem dX2_isWell_6 : decode cX2_isWell 6 = .ok (.aload_n 0, 1) := by decide +kernel
theorem dX2_isWell_7 : decode cX2_isWell 7 = .ok (.iload_n 1, 1) := by decide +kernel
theorem dX2_isWell_8 : decode cX2_isWell 8 = .ok (.iload_n 2, 1) := by decide +kernel
theorem dX2_isWell_9 : decode cX2_isWell 9 = .ok (.invokevirtual 103, 3) := by decide +kernel
theorem dX2_isWell_12 : decode cX2_isWell 12 = .ok (.ireturn, 1) := by decide +kernel
set_option maxRecDepth 20000 in
theorem ggX2_agree_X2_demandCables : GoodIn wsX2_agree wsX2_demandCables := goodIn_ca (goodIn_r _ [8, 9, 10, 11, 7, 12, 13, 14, 15, 36, 37, 38, 39, 40, 41, 42, 43, 44] (by decide +kernel) (by decide +kernel)) (goodIn_sub (fun _ h => List.mem_cons_of_mem _ (List.mem_append_right _ h)) (by decide +kernel))
set_option maxRecDepth 20000 in
theorem gX2_agree_X2_demandCables : GoodIn wsX2_agree (wsV RX2 93 RX2 yX2_demandCables wsX2_demandCables) := goodIn_app (goodIn_of _ (by decide +kernel)) ggX2_agree_X2_demandCables
set_option maxRecDepth 20000 in
theorem ggX2_agree_X2_pairOf : GoodIn wsX2_agree wsX2_pairOf := goodIn_r _ [18, 19, 20, 21, 22, 23, 24, 25] (by decide +kernel) (by decide +kernel)
set_option maxRecDepth 20000 in
theorem gX2_agree_X2_pairOf : GoodIn wsX2_agree (va_wsS RX2 96 yX2_pairOf wsX2_pairOf) := goodIn_app (goodIn_of _ (by decide +kernel)) ggX2_agree_X2_pairOf
set_option maxRecDepth 20000 in
theorem ggX2_agree_X2_crossWell : GoodIn wsX2_agree wsX2_crossWell := goodIn_r _ [29, 30, 31, 16, 17, 7, 18, 19, 20, 21, 22, 23, 24, 25, 36, 37, 38, 39, 40, 41, 42, 43, 44] (by decide +kernel) (by decide +kernel)
set_option maxRecDepth 20000 in
theorem gX2_agree_X2_crossWell : GoodIn wsX2_agree (wsV RX2 103 RX2 yX2_crossWell wsX2_crossWell) := goodIn_app (goodIn_of _ (by decide +kernel)) ggX2_agree_X2_crossWell
set_option maxRecDepth 20000 in
theorem ggX2_agree_X2_countBarePairs : GoodIn wsX2_agree wsX2_countBarePairs := goodIn_r _ [35, 15, 30, 3, 16, 17, 7, 18, 19, 20, 21, 22, 23, 24, 25, 36, 37, 38, 39, 40, 41, 42, 43, 44] (by decide +kernel) (by decide +kernel)
set_option maxRecDepth 20000 in
theorem gX2_agree_X2_countBarePairs : GoodIn wsX2_agree (wsV RX2 109 RX2 yX2_countBarePairs wsX2_countBarePairs) := goodIn_app (goodIn_of _ (by decide +kernel)) ggX2_agree_X2_countBarePairs
theorem dX2_agree_0 : decode cX2_agree 0 = .ok (.aload_n 0, 1) := by decide +kernel
theorem dX2_agree_1 : decode cX2_agree 1 = .ok (.iload_n 1, 1) := by decide +kernel
theorem dX2_agree_2 : decode cX2_agree 2 = .ok (.iload_n 2, 1) := by decide +kernel
theorem dX2_agree_3 : decode cX2_agree 3 = .ok (.invokevirtual 93, 3) := by decide +kernel
theorem dX2_agree_6 : decode cX2_agree 6 = .ok (.iload_n 1, 1) := by decide +kernel
theorem dX2_agree_7 : decode cX2_agree 7 = .ok (.iload_n 2, 1) := by decide +kernel
theorem dX2_agree_8 : decode cX2_agree 8 = .ok (.invokestatic 96, 3) := by decide +kernel
theorem dX2_agree_11 : decode cX2_agree 11 = .ok (.istore_n 3, 1) := by decide +kernel
theorem dX2_agree_12 : decode cX2_agree 12 = .ok (.aload_n 0, 1) := by decide +kernel
theorem dX2_agree_13 : decode cX2_agree 13 = .ok (.iload_n 1, 1) := by decide +kernel
theorem dX2_agree_14 : decode cX2_agree 14 = .ok (.iload_n 2, 1) := by decide +kernel
theorem dX2_agree_15 : decode cX2_agree 15 = .ok (.invokevirtual 103, 3) := by decide +kernel
theorem dX2_agree_18 : decode cX2_agree 18 = .ok (.ifCond .eq 12, 3) := by decide +kernel
theorem dX2_agree_21 : decode cX2_agree 21 = .ok (.aload_n 0, 1) := by decide +kernel
theorem dX2_agree_22 : decode cX2_agree 22 = .ok (.getfield 31, 3) := by decide +kernel
theorem dX2_agree_25 : decode cX2_agree 25 = .ok (.iload_n 3, 1) := by decide +kernel
theorem dX2_agree_26 : decode cX2_agree 26 = .ok (.baload, 1) := by decide +kernel
theorem dX2_agree_27 : decode cX2_agree 27 = .ok (.ifCond .eq 13, 3) := by decide +kernel
theorem dX2_agree_30 : decode cX2_agree 30 = .ok (.new 59, 3) := by decide +kernel
theorem dX2_agree_33 : decode cX2_agree 33 = .ok (.dup, 1) := by decide +kernel
theorem dX2_agree_34 : decode cX2_agree 34 = .ok (.ldc 107, 2) := by decide +kernel
theorem dX2_agree_36 : decode cX2_agree 36 = .ok (.invokespecial 63, 3) := by decide +kernel
theorem dX2_agree_39 : decode cX2_agree 39 = .ok (.athrow, 1) := by decide +kernel
theorem dX2_agree_40 : decode cX2_agree 40 = .ok (.aload_n 0, 1) := by decide +kernel
theorem dX2_agree_41 : decode cX2_agree 41 = .ok (.getfield 31, 3) := by decide +kernel
theorem dX2_agree_44 : decode cX2_agree 44 = .ok (.iload_n 3, 1) := by decide +kernel
theorem dX2_agree_45 : decode cX2_agree 45 = .ok (.iconst 1, 1) := by decide +kernel
theorem dX2_agree_46 : decode cX2_agree 46 = .ok (.bastore, 1) := by decide +kernel
theorem dX2_agree_47 : decode cX2_agree 47 = .ok (.aload_n 0, 1) := by decide +kernel
theorem dX2_agree_48 : decode cX2_agree 48 = .ok (.invokevirtual 109, 3) := by decide +kernel
theorem dX2_agree_51 : decode cX2_agree 51 = .ok (.ireturn, 1) := by decide +kernel
set_option maxRecDepth 20000 in
theorem ggX2_isAgreed_X2_demandCables : GoodIn wsX2_isAgreed wsX2_demandCables := goodIn_ca (goodIn_r _ [6, 7, 8, 9, 5, 10, 11, 12, 13, 24, 25, 26, 27, 28, 29, 30, 31, 32] (by decide +kernel) (by decide +kernel)) (goodIn_sub (fun _ h => List.mem_cons_of_mem _ (List.mem_append_right _ h)) (by decide +kernel))
set_option maxRecDepth 20000 in
theorem gX2_isAgreed_X2_demandCables : GoodIn wsX2_isAgreed (wsV RX2 93 RX2 yX2_demandCables wsX2_demandCables) := goodIn_app (goodIn_of _ (by decide +kernel)) ggX2_isAgreed_X2_demandCables
set_option maxRecDepth 20000 in
theorem ggX2_isAgreed_X2_pairOf : GoodIn wsX2_isAgreed wsX2_pairOf := goodIn_r _ [16, 17, 18, 19, 20, 21, 22, 23] (by decide +kernel) (by decide +kernel)
set_option maxRecDepth 20000 in
theorem gX2_isAgreed_X2_pairOf : GoodIn wsX2_isAgreed (va_wsS RX2 96 yX2_pairOf wsX2_pairOf) := goodIn_app (goodIn_of _ (by decide +kernel)) ggX2_isAgreed_X2_pairOf
theorem dX2_isAgreed_0 : decode cX2_isAgreed 0 = .ok (.aload_n 0, 1) := by decide +kernel
theorem dX2_isAgreed_1 : decode cX2_isAgreed 1 = .ok (.iload_n 1, 1) := by decide +kernel
theorem dX2_isAgreed_2 : decode cX2_isAgreed 2 = .ok (.iload_n 2, 1) := by decide +kernel
theorem dX2_isAgreed_3 : decode cX2_isAgreed 3 = .ok (.invokevirtual 93, 3) := by decide +kernel
theorem dX2_isAgreed_6 : decode cX2_isAgreed 6 = .ok (.aload_n 0, 1) := by decide +kernel
theorem dX2_isAgreed_7 : decode cX2_isAgreed 7 = .ok (.getfield 31, 3) := by decide +kernel
theorem dX2_isAgreed_10 : decode cX2_isAgreed 10 = .ok (.iload_n 1, 1) := by decide +kernel
theorem dX2_isAgreed_11 : decode cX2_isAgreed 11 = .ok (.iload_n 2, 1) := by decide +kernel
theorem dX2_isAgreed_12 : decode cX2_isAgreed 12 = .ok (.invokestatic 96, 3) := by decide +kernel
theorem dX2_isAgreed_15 : decode cX2_isAgreed 15 = .ok (.baload, 1) := by decide +kernel
theorem dX2_isAgreed_16 : decode cX2_isAgreed 16 = .ok (.ireturn, 1) := by decide +kernel
set_option maxRecDepth 20000 in
theorem ggX2_bare_X2_countBarePairs : GoodIn wsX2_bare wsX2_countBarePairs := goodIn_r _ [5, 6, 7, 8, 9, 10, 4, 11, 12, 13, 14, 15, 16, 17, 18, 19, 20, 21, 22, 23, 24, 25, 26, 27] (by decide +kernel) (by decide +kernel)
set_option maxRecDepth 20000 in
theorem gX2_bare_X2_countBarePairs : GoodIn wsX2_bare (wsV RX2 109 RX2 yX2_countBarePairs wsX2_countBarePairs) := goodIn_app (goodIn_of _ (by decide +kernel)) ggX2_bare_X2_countBarePairs
theorem dX2_bare_0 : decode cX2_bare 0 = .ok (.aload_n 0, 1) := by decide +kernel
theorem dX2_bare_1 : decode cX2_bare 1 = .ok (.invokevirtual 109, 3) := by decide +kernel
theorem dX2_bare_4 : decode cX2_bare 4 = .ok (.ireturn, 1) := by decide +kernel
set_option maxRecDepth 20000 in
theorem ggX2_ground_X2_demandPlace : GoodIn wsX2_ground wsX2_demandPlace := goodIn_ca (goodIn_r _ [10, 1, 2] (by decide +kernel) (by decide +kernel)) (goodIn_sub (fun _ h => List.mem_cons_of_mem _ (List.mem_append_left _ (List.mem_append_right _ h))) (by decide +kernel))
set_option maxRecDepth 20000 in
theorem gX2_ground_X2_demandPlace : GoodIn wsX2_ground (va_wsS RX2 48 yX2_demandPlace wsX2_demandPlace) := goodIn_app (goodIn_of _ (by decide +kernel)) ggX2_ground_X2_demandPlace
set_option maxRecDepth 20000 in
theorem ggX2_ground_X2_demandMonth : GoodIn wsX2_ground wsX2_demandMonth := goodIn_ca (goodIn_r _ [13, 1, 2] (by decide +kernel) (by decide +kernel)) (goodIn_sub (fun _ h => List.mem_cons_of_mem _ (List.mem_append_left _ (List.mem_append_right _ h))) (by decide +kernel))
set_option maxRecDepth 20000 in
theorem gX2_ground_X2_demandMonth : GoodIn wsX2_ground (va_wsS RX2 118 yX2_demandMonth wsX2_demandMonth) := goodIn_app (goodIn_of _ (by decide +kernel)) ggX2_ground_X2_demandMonth
set_option maxRecDepth 20000 in
theorem ggX2_ground_X0_setBounds : GoodIn wsX2_ground wsX0_setBounds := goodIn_r _ [17, 18, 19, 20, 21, 36, 37, 38, 39, 40, 41, 42, 43, 44] (by decide +kernel) (by decide +kernel)
set_option maxRecDepth 20000 in
theorem gX2_ground_X0_setBounds_n124 : GoodIn wsX2_ground (wsX0_setBounds) := ggX2_ground_X0_setBounds
set_option maxRecDepth 20000 in
theorem ggX2_ground_X0_setMonths : GoodIn wsX2_ground wsX0_setMonths := goodIn_r _ [24, 25, 26, 36, 37, 38, 39, 40, 41, 42, 43, 44] (by decide +kernel) (by decide +kernel)
set_option maxRecDepth 20000 in
theorem gX2_ground_X0_setMonths_n128 : GoodIn wsX2_ground (wsX0_setMonths) := ggX2_ground_X0_setMonths
theorem dX2_ground_0 : decode cX2_ground 0 = .ok (.iload_n 1, 1) := by decide +kernel
theorem dX2_ground_1 : decode cX2_ground 1 = .ok (.iload_n 2, 1) := by decide +kernel
theorem dX2_ground_2 : decode cX2_ground 2 = .ok (.invokestatic 48, 3) := by decide +kernel
theorem dX2_ground_5 : decode cX2_ground 5 = .ok (.iload_n 3, 1) := by decide +kernel
theorem dX2_ground_6 : decode cX2_ground 6 = .ok (.iload 4, 2) := by decide +kernel
theorem dX2_ground_8 : decode cX2_ground 8 = .ok (.invokestatic 48, 3) := by decide +kernel
theorem dX2_ground_11 : decode cX2_ground 11 = .ok (.iload_n 3, 1) := by decide +kernel
theorem dX2_ground_12 : decode cX2_ground 12 = .ok (.iload_n 1, 1) := by decide +kernel
theorem dX2_ground_13 : decode cX2_ground 13 = .ok (.if_icmp .lt 9, 3) := by decide +kernel
theorem dX2_ground_16 : decode cX2_ground 16 = .ok (.iload 4, 2) := by decide +kernel
theorem dX2_ground_18 : decode cX2_ground 18 = .ok (.iload_n 2, 1) := by decide +kernel
theorem dX2_ground_19 : decode cX2_ground 19 = .ok (.if_icmp .ge 13, 3) := by decide +kernel
theorem dX2_ground_22 : decode cX2_ground 22 = .ok (.new 113, 3) := by decide +kernel
theorem dX2_ground_25 : decode cX2_ground 25 = .ok (.dup, 1) := by decide +kernel
theorem dX2_ground_26 : decode cX2_ground 26 = .ok (.ldc 115, 2) := by decide +kernel
theorem dX2_ground_28 : decode cX2_ground 28 = .ok (.invokespecial 117, 3) := by decide +kernel
theorem dX2_ground_31 : decode cX2_ground 31 = .ok (.athrow, 1) := by decide +kernel
theorem dX2_ground_32 : decode cX2_ground 32 = .ok (.iload 5, 2) := by decide +kernel
theorem dX2_ground_34 : decode cX2_ground 34 = .ok (.invokestatic 118, 3) := by decide +kernel
theorem dX2_ground_37 : decode cX2_ground 37 = .ok (.iload 6, 2) := by decide +kernel
theorem dX2_ground_39 : decode cX2_ground 39 = .ok (.invokestatic 118, 3) := by decide +kernel
theorem dX2_ground_42 : decode cX2_ground 42 = .ok (.aload_n 0, 1) := by decide +kernel
theorem dX2_ground_43 : decode cX2_ground 43 = .ok (.getfield 41, 3) := by decide +kernel
theorem dX2_ground_46 : decode cX2_ground 46 = .ok (.iconst 5, 1) := by decide +kernel
theorem dX2_ground_47 : decode cX2_ground 47 = .ok (.if_icmp .lt 13, 3) := by decide +kernel
theorem dX2_ground_50 : decode cX2_ground 50 = .ok (.new 59, 3) := by decide +kernel
theorem dX2_ground_53 : decode cX2_ground 53 = .ok (.dup, 1) := by decide +kernel
theorem dX2_ground_54 : decode cX2_ground 54 = .ok (.ldc 122, 2) := by decide +kernel
theorem dX2_ground_56 : decode cX2_ground 56 = .ok (.invokespecial 63, 3) := by decide +kernel
theorem dX2_ground_59 : decode cX2_ground 59 = .ok (.athrow, 1) := by decide +kernel
theorem dX2_ground_60 : decode cX2_ground 60 = .ok (.aload_n 0, 1) := by decide +kernel
theorem dX2_ground_61 : decode cX2_ground 61 = .ok (.getfield 41, 3) := by decide +kernel
theorem dX2_ground_64 : decode cX2_ground 64 = .ok (.istore 7, 2) := by decide +kernel
theorem dX2_ground_66 : decode cX2_ground 66 = .ok (.aload_n 0, 1) := by decide +kernel
theorem dX2_ground_67 : decode cX2_ground 67 = .ok (.getfield 37, 3) := by decide +kernel
theorem dX2_ground_70 : decode cX2_ground 70 = .ok (.iload 7, 2) := by decide +kernel
theorem dX2_ground_72 : decode cX2_ground 72 = .ok (.aaload, 1) := by decide +kernel
theorem dX2_ground_73 : decode cX2_ground 73 = .ok (.iload_n 1, 1) := by decide +kernel
theorem dX2_ground_74 : decode cX2_ground 74 = .ok (.iload_n 2, 1) := by decide +kernel
theorem dX2_ground_75 : decode cX2_ground 75 = .ok (.iload_n 3, 1) := by decide +kernel
theorem dX2_ground_76 : decode cX2_ground 76 = .ok (.iload 4, 2) := by decide +kernel
theorem dX2_ground_78 : decode cX2_ground 78 = .ok (.invokevirtual 124, 3) := by decide +kernel
theorem dX2_ground_81 : decode cX2_ground 81 = .ok (.aload_n 0, 1) := by decide +kernel
theorem dX2_ground_82 : decode cX2_ground 82 = .ok (.getfield 37, 3) := by decide +kernel
theorem dX2_ground_85 : decode cX2_ground 85 = .ok (.iload 7, 2) := by decide +kernel
theorem dX2_ground_87 : decode cX2_ground 87 = .ok (.aaload, 1) := by decide +kernel
theorem dX2_ground_88 : decode cX2_ground 88 = .ok (.iload 5, 2) := by decide +kernel
theorem dX2_ground_90 : decode cX2_ground 90 = .ok (.iload 6, 2) := by decide +kernel
theorem dX2_ground_92 : decode cX2_ground 92 = .ok (.invokevirtual 128, 3) := by decide +kernel
theorem dX2_ground_95 : decode cX2_ground 95 = .ok (.aload_n 0, 1) := by decide +kernel
theorem dX2_ground_96 : decode cX2_ground 96 = .ok (.dup, 1) := by decide +kernel
theorem dX2_ground_97 : decode cX2_ground 97 = .ok (.getfield 41, 3) := by decide +kernel
theorem dX2_ground_100 : decode cX2_ground 100 = .ok (.iconst 1, 1) := by decide +kernel
theorem dX2_ground_101 : decode cX2_ground 101 = .ok (.iadd, 1) := by decide +kernel
theorem dX2_ground_102 : decode cX2_ground 102 = .ok (.putfield 41, 3) := by decide +kernel
theorem dX2_ground_105 : decode cX2_ground 105 = .ok (.iload 7, 2) := by decide +kernel
theorem dX2_ground_107 : decode cX2_ground 107 = .ok (.ireturn, 1) := by decide +kernel
set_option maxRecDepth 20000 in
theorem ggX2_tell_X2_demandGround : GoodIn wsX2_tell wsX2_demandGround := goodIn_ca (goodIn_r _ [11, 12, 13, 14, 21, 22, 23, 24, 25, 26, 27, 28, 29] (by decide +kernel) (by decide +kernel)) (goodIn_sub (fun _ h => List.mem_cons_of_mem _ (List.mem_append_right _ h)) (by decide +kernel))
set_option maxRecDepth 20000 in
theorem gX2_tell_X2_demandGround : GoodIn wsX2_tell (wsV RX2 131 RX2 yX2_demandGround wsX2_demandGround) := goodIn_app (goodIn_of _ (by decide +kernel)) ggX2_tell_X2_demandGround
set_option maxRecDepth 20000 in
theorem ggX2_tell_X0_price : GoodIn wsX2_tell wsX0_price := goodIn_r _ [18, 19, 20, 30, 31, 32, 33, 34, 35, 36, 37, 38] (by decide +kernel) (by decide +kernel)
set_option maxRecDepth 20000 in
theorem gX2_tell_X0_price_n145 : GoodIn wsX2_tell (wsX0_price) := ggX2_tell_X0_price
theorem dX2_tell_0 : decode cX2_tell 0 = .ok (.aload_n 0, 1) := by decide +kernel
theorem dX2_tell_1 : decode cX2_tell 1 = .ok (.iload_n 1, 1) := by decide +kernel
theorem dX2_tell_2 : decode cX2_tell 2 = .ok (.invokevirtual 131, 3) := by decide +kernel
theorem dX2_tell_5 : decode cX2_tell 5 = .ok (.iload_n 2, 1) := by decide +kernel
theorem dX2_tell_6 : decode cX2_tell 6 = .ok (.ifCond .lt 9, 3) := by decide +kernel
theorem dX2_tell_9 : decode cX2_tell 9 = .ok (.iload_n 2, 1) := by decide +kernel
theorem dX2_tell_10 : decode cX2_tell 10 = .ok (.ldc 134, 2) := by decide +kernel
theorem dX2_tell_12 : decode cX2_tell 12 = .ok (.if_icmp .le 13, 3) := by decide +kernel
theorem dX2_tell_15 : decode cX2_tell 15 = .ok (.new 113, 3) := by decide +kernel
theorem dX2_tell_18 : decode cX2_tell 18 = .ok (.dup, 1) := by decide +kernel
theorem dX2_tell_19 : decode cX2_tell 19 = .ok (.ldc 135, 2) := by decide +kernel
theorem dX2_tell_21 : decode cX2_tell 21 = .ok (.invokespecial 117, 3) := by decide +kernel
theorem dX2_tell_24 : decode cX2_tell 24 = .ok (.athrow, 1) := by decide +kernel
theorem dX2_tell_25 : decode cX2_tell 25 = .ok (.aload_n 0, 1) := by decide +kernel
theorem dX2_tell_26 : decode cX2_tell 26 = .ok (.getfield 37, 3) := by decide +kernel
theorem dX2_tell_29 : decode cX2_tell 29 = .ok (.iload_n 1, 1) := by decide +kernel
theorem dX2_tell_30 : decode cX2_tell 30 = .ok (.aaload, 1) := by decide +kernel
theorem dX2_tell_31 : decode cX2_tell 31 = .ok (.astore_n 3, 1) := by decide +kernel
theorem dX2_tell_32 : decode cX2_tell 32 = .ok (.aload_n 3, 1) := by decide +kernel
theorem dX2_tell_33 : decode cX2_tell 33 = .ok (.getfield 137, 3) := by decide +kernel
theorem dX2_tell_36 : decode cX2_tell 36 = .ok (.bipush 100, 2) := by decide +kernel
theorem dX2_tell_38 : decode cX2_tell 38 = .ok (.if_icmp .lt 13, 3) := by decide +kernel
theorem dX2_tell_41 : decode cX2_tell 41 = .ok (.new 59, 3) := by decide +kernel
theorem dX2_tell_44 : decode cX2_tell 44 = .ok (.dup, 1) := by decide +kernel
theorem dX2_tell_45 : decode cX2_tell 45 = .ok (.ldc 140, 2) := by decide +kernel
theorem dX2_tell_47 : decode cX2_tell 47 = .ok (.invokespecial 63, 3) := by decide +kernel
theorem dX2_tell_50 : decode cX2_tell 50 = .ok (.athrow, 1) := by decide +kernel
theorem dX2_tell_51 : decode cX2_tell 51 = .ok (.aload_n 3, 1) := by decide +kernel
theorem dX2_tell_52 : decode cX2_tell 52 = .ok (.dup, 1) := by decide +kernel
theorem dX2_tell_53 : decode cX2_tell 53 = .ok (.getfield 137, 3) := by decide +kernel
theorem dX2_tell_56 : decode cX2_tell 56 = .ok (.iconst 1, 1) := by decide +kernel
theorem dX2_tell_57 : decode cX2_tell 57 = .ok (.iadd, 1) := by decide +kernel
theorem dX2_tell_58 : decode cX2_tell 58 = .ok (.putfield 137, 3) := by decide +kernel
theorem dX2_tell_61 : decode cX2_tell 61 = .ok (.aload_n 3, 1) := by decide +kernel
theorem dX2_tell_62 : decode cX2_tell 62 = .ok (.dup, 1) := by decide +kernel
theorem dX2_tell_63 : decode cX2_tell 63 = .ok (.getfield 142, 3) := by decide +kernel
theorem dX2_tell_66 : decode cX2_tell 66 = .ok (.iload_n 2, 1) := by decide +kernel
theorem dX2_tell_67 : decode cX2_tell 67 = .ok (.iadd, 1) := by decide +kernel
theorem dX2_tell_68 : decode cX2_tell 68 = .ok (.putfield 142, 3) := by decide +kernel
theorem dX2_tell_71 : decode cX2_tell 71 = .ok (.aload_n 3, 1) := by decide +kernel
theorem dX2_tell_72 : decode cX2_tell 72 = .ok (.invokevirtual 145, 3) := by decide +kernel
theorem dX2_tell_75 : decode cX2_tell 75 = .ok (.ireturn, 1) := by decide +kernel
set_option maxRecDepth 20000 in
theorem ggX2_isClosed_X2_demandGround : GoodIn wsX2_isClosed wsX2_demandGround := goodIn_ca (goodIn_r _ [6, 7, 8, 9, 21, 22, 23, 24, 25, 26, 27, 28, 29] (by decide +kernel) (by decide +kernel)) (goodIn_sub (fun _ h => List.mem_cons_of_mem _ (List.mem_append_left _ (List.mem_append_right _ h))) (by decide +kernel))
set_option maxRecDepth 20000 in
theorem gX2_isClosed_X2_demandGround : GoodIn wsX2_isClosed (wsV RX2 131 RX2 yX2_demandGround wsX2_demandGround) := goodIn_app (goodIn_of _ (by decide +kernel)) ggX2_isClosed_X2_demandGround
set_option maxRecDepth 20000 in
theorem ggX2_isClosed_X2_demandMonth : GoodIn wsX2_isClosed wsX2_demandMonth := goodIn_ca (goodIn_r _ [12, 13, 14] (by decide +kernel) (by decide +kernel)) (goodIn_sub (fun _ h => List.mem_cons_of_mem _ (List.mem_append_right _ h)) (by decide +kernel))
set_option maxRecDepth 20000 in
theorem gX2_isClosed_X2_demandMonth : GoodIn wsX2_isClosed (va_wsS RX2 118 yX2_demandMonth wsX2_demandMonth) := goodIn_app (goodIn_of _ (by decide +kernel)) ggX2_isClosed_X2_demandMonth
set_option maxRecDepth 20000 in
theorem ggX2_isClosed_X0_isShutIn : GoodIn wsX2_isClosed wsX0_isShutIn := goodIn_r _ [18, 19, 20, 30, 31, 32, 33, 34, 35, 36, 37, 38] (by decide +kernel) (by decide +kernel)
set_option maxRecDepth 20000 in
theorem gX2_isClosed_X0_isShutIn_n148 : GoodIn wsX2_isClosed (wsX0_isShutIn) := ggX2_isClosed_X0_isShutIn
theorem dX2_isClosed_0 : decode cX2_isClosed 0 = .ok (.aload_n 0, 1) := by decide +kernel
theorem dX2_isClosed_1 : decode cX2_isClosed 1 = .ok (.iload_n 1, 1) := by decide +kernel
theorem dX2_isClosed_2 : decode cX2_isClosed 2 = .ok (.invokevirtual 131, 3) := by decide +kernel
theorem dX2_isClosed_5 : decode cX2_isClosed 5 = .ok (.iload_n 2, 1) := by decide +kernel
theorem dX2_isClosed_6 : decode cX2_isClosed 6 = .ok (.invokestatic 118, 3) := by decide +kernel
theorem dX2_isClosed_9 : decode cX2_isClosed 9 = .ok (.aload_n 0, 1) := by decide +kernel
theorem dX2_isClosed_10 : decode cX2_isClosed 10 = .ok (.getfield 37, 3) := by decide +kernel
theorem dX2_isClosed_13 : decode cX2_isClosed 13 = .ok (.iload_n 1, 1) := by decide +kernel
theorem dX2_isClosed_14 : decode cX2_isClosed 14 = .ok (.aaload, 1) := by decide +kernel
theorem dX2_isClosed_15 : decode cX2_isClosed 15 = .ok (.iload_n 2, 1) := by decide +kernel
theorem dX2_isClosed_16 : decode cX2_isClosed 16 = .ok (.invokevirtual 148, 3) := by decide +kernel
theorem dX2_isClosed_19 : decode cX2_isClosed 19 = .ok (.ireturn, 1) := by decide +kernel
set_option maxRecDepth 20000 in
theorem ggX2_touches_X2_demandPiece : GoodIn wsX2_touches wsX2_demandPiece := goodIn_ca (goodIn_r _ [7, 8, 9, 1, 10, 11, 12, 6, 13, 14, 15, 16, 17, 18, 19, 73, 74, 75, 76, 77, 78, 79, 80, 81, 82, 83, 84] (by decide +kernel) (by decide +kernel)) (goodIn_sub (fun _ h => List.mem_cons_of_mem _ (List.mem_append_right _ h)) (by decide +kernel))
set_option maxRecDepth 20000 in
theorem gX2_touches_X2_demandPiece : GoodIn wsX2_touches (wsV RX2 152 RX2 yX2_demandPiece wsX2_demandPiece) := goodIn_app (goodIn_of _ (by decide +kernel)) ggX2_touches_X2_demandPiece
set_option maxRecDepth 20000 in
theorem ggX2_touches_X2_demandGround : GoodIn wsX2_touches wsX2_demandGround := goodIn_ca (goodIn_r _ [23, 8, 9, 24, 73, 74, 75, 76, 77, 78, 79, 80, 81] (by decide +kernel) (by decide +kernel)) (goodIn_sub (fun _ h => List.mem_cons_of_mem _ (List.mem_append_right _ h)) (by decide +kernel))
set_option maxRecDepth 20000 in
theorem gX2_touches_X2_demandGround : GoodIn wsX2_touches (wsV RX2 131 RX2 yX2_demandGround wsX2_demandGround) := goodIn_app (goodIn_of _ (by decide +kernel)) ggX2_touches_X2_demandGround
set_option maxRecDepth 20000 in
theorem ggX2_touches_X1_pieceMeets : GoodIn wsX2_touches wsX1_pieceMeets := goodIn_r _ [27, 28, 29, 30, 16, 31, 32, 33, 34, 35, 36, 37, 38, 39, 40, 41, 42, 43, 44, 45, 46, 47, 48, 49, 50, 51, 52, 53, 54, 55, 56, 57, 58, 59, 60, 61, 62, 63, 64, 65, 66, 67, 68, 69, 70, 71, 72, 85, 86, 87, 88, 89, 90, 91, 92, 93, 82, 83, 84] (by decide +kernel) (by decide +kernel)
set_option maxRecDepth 20000 in
theorem gX2_touches_X1_pieceMeets_n155 : GoodIn wsX2_touches (wsX1_pieceMeets) := ggX2_touches_X1_pieceMeets
theorem dX2_touches_0 : decode cX2_touches 0 = .ok (.aload_n 0, 1) := by decide +kernel
theorem dX2_touches_1 : decode cX2_touches 1 = .ok (.iload_n 1, 1) := by decide +kernel
theorem dX2_touches_2 : decode cX2_touches 2 = .ok (.iload_n 2, 1) := by decide +kernel
theorem dX2_touches_3 : decode cX2_touches 3 = .ok (.invokevirtual 152, 3) := by decide +kernel
theorem dX2_touches_6 : decode cX2_touches 6 = .ok (.aload_n 0, 1) := by decide +kernel
theorem dX2_touches_7 : decode cX2_touches 7 = .ok (.iload_n 3, 1) := by decide +kernel
theorem dX2_touches_8 : decode cX2_touches 8 = .ok (.invokevirtual 131, 3) := by decide +kernel
theorem dX2_touches_11 : decode cX2_touches 11 = .ok (.aload_n 0, 1) := by decide +kernel
theorem dX2_touches_12 : decode cX2_touches 12 = .ok (.getfield 16, 3) := by decide +kernel
theorem dX2_touches_15 : decode cX2_touches 15 = .ok (.iload_n 1, 1) := by decide +kernel
theorem dX2_touches_16 : decode cX2_touches 16 = .ok (.aaload, 1) := by decide +kernel
theorem dX2_touches_17 : decode cX2_touches 17 = .ok (.iload_n 2, 1) := by decide +kernel
theorem dX2_touches_18 : decode cX2_touches 18 = .ok (.aload_n 0, 1) := by decide +kernel
theorem dX2_touches_19 : decode cX2_touches 19 = .ok (.getfield 37, 3) := by decide +kernel
theorem dX2_touches_22 : decode cX2_touches 22 = .ok (.iload_n 3, 1) := by decide +kernel
theorem dX2_touches_23 : decode cX2_touches 23 = .ok (.aaload, 1) := by decide +kernel
theorem dX2_touches_24 : decode cX2_touches 24 = .ok (.invokevirtual 155, 3) := by decide +kernel
theorem dX2_touches_27 : decode cX2_touches 27 = .ok (.ireturn, 1) := by decide +kernel
set_option maxRecDepth 20000 in
theorem ggX2_lifted_X2_demandPiece : GoodIn wsX2_lifted wsX2_demandPiece := goodIn_ca (goodIn_r _ [5, 6, 7, 8, 9, 10, 11, 4, 12, 13, 14, 15, 16, 17, 18, 92, 93, 94, 95, 96, 97, 98, 99, 100, 101, 102, 103] (by decide +kernel) (by decide +kernel)) (goodIn_sub (fun _ h => List.mem_cons_of_mem _ (List.mem_append_right _ h)) (by decide +kernel))
set_option maxRecDepth 20000 in
theorem gX2_lifted_X2_demandPiece : GoodIn wsX2_lifted (wsV RX2 152 RX2 yX2_demandPiece wsX2_demandPiece) := goodIn_app (goodIn_of _ (by decide +kernel)) ggX2_lifted_X2_demandPiece
set_option maxRecDepth 20000 in
theorem ggX2_lifted_X2_liftedWith : GoodIn wsX2_lifted wsX2_liftedWith := goodIn_r _ [22, 13, 23, 24, 4, 25, 26, 27, 28, 29, 8, 14, 15, 16, 17, 18, 30, 31, 32, 33, 34, 35, 36, 37, 38, 39, 40, 41, 42, 43, 44, 45, 46, 47, 48, 49, 50, 51, 52, 53, 54, 55, 56, 57, 58, 59, 60, 61, 62, 63, 64, 65, 66, 67, 68, 69, 70, 71, 72, 73, 74, 75, 76, 77, 78, 79, 80, 81, 82, 83, 84, 92, 93, 94, 95, 96, 97, 98, 99, 100, 101, 102, 103] (by decide +kernel) (by decide +kernel)
set_option maxRecDepth 20000 in
theorem gX2_lifted_X2_liftedWith : GoodIn wsX2_lifted (wsV RX2 159 RX2 yX2_liftedWith wsX2_liftedWith) := goodIn_app (goodIn_of _ (by decide +kernel)) ggX2_lifted_X2_liftedWith
set_option maxRecDepth 20000 in
theorem ggX2_lifted_J13_bitCount_95d88 : GoodIn wsX2_lifted wsJ13_bitCount_95d88 := goodIn_r _ [88, 89, 90, 91] (by decide +kernel) (by decide +kernel)
set_option maxRecDepth 20000 in
theorem gX2_lifted_J13_bitCount_95d88 : GoodIn wsX2_lifted (va_wsS RX2 163 yJ13_bitCount_95d88 wsJ13_bitCount_95d88) := goodIn_app (goodIn_of _ (by decide +kernel)) ggX2_lifted_J13_bitCount_95d88
theorem dX2_lifted_0 : decode cX2_lifted 0 = .ok (.aload_n 0, 1) := by decide +kernel
theorem dX2_lifted_1 : decode cX2_lifted 1 = .ok (.iload_n 1, 1) := by decide +kernel
theorem dX2_lifted_2 : decode cX2_lifted 2 = .ok (.iload_n 2, 1) := by decide +kernel
theorem dX2_lifted_3 : decode cX2_lifted 3 = .ok (.invokevirtual 152, 3) := by decide +kernel
theorem dX2_lifted_6 : decode cX2_lifted 6 = .ok (.aload_n 0, 1) := by decide +kernel
theorem dX2_lifted_7 : decode cX2_lifted 7 = .ok (.iload_n 1, 1) := by decide +kernel
theorem dX2_lifted_8 : decode cX2_lifted 8 = .ok (.iload_n 2, 1) := by decide +kernel
theorem dX2_lifted_9 : decode cX2_lifted 9 = .ok (.invokevirtual 159, 3) := by decide +kernel
theorem dX2_lifted_12 : decode cX2_lifted 12 = .ok (.invokestatic 163, 3) := by decide +kernel
theorem dX2_lifted_15 : decode cX2_lifted 15 = .ok (.ireturn, 1) := by decide +kernel
set_option maxRecDepth 20000 in
theorem ggX2_cost_X2_demandPiece : GoodIn wsX2_cost wsX2_demandPiece := goodIn_ca (goodIn_r _ [5, 6, 7, 8, 9, 10, 11, 4, 12, 13, 14, 15, 16, 17, 18, 139, 140, 141, 142, 143, 144, 145, 146, 147, 148, 149, 150] (by decide +kernel) (by decide +kernel)) (goodIn_sub (fun _ h => List.mem_cons_of_mem _ (List.mem_append_left _ (List.mem_append_right _ h))) (by decide +kernel))
set_option maxRecDepth 20000 in
theorem gX2_cost_X2_demandPiece : GoodIn wsX2_cost (wsV RX2 152 RX2 yX2_demandPiece wsX2_demandPiece) := goodIn_app (goodIn_of _ (by decide +kernel)) ggX2_cost_X2_demandPiece
set_option maxRecDepth 20000 in
theorem ggX2_cost_X2_demandMonth : GoodIn wsX2_cost wsX2_demandMonth := goodIn_ca (goodIn_r _ [21, 22, 23] (by decide +kernel) (by decide +kernel)) (goodIn_sub (fun _ h => List.mem_cons_of_mem _ (List.mem_append_right _ h)) (by decide +kernel))
set_option maxRecDepth 20000 in
theorem gX2_cost_X2_demandMonth : GoodIn wsX2_cost (va_wsS RX2 118 yX2_demandMonth wsX2_demandMonth) := goodIn_app (goodIn_of _ (by decide +kernel)) ggX2_cost_X2_demandMonth
set_option maxRecDepth 20000 in
theorem ggX2_cost_X2_liftedWith : GoodIn wsX2_cost wsX2_liftedWith := goodIn_r _ [27, 13, 28, 29, 4, 30, 31, 32, 33, 34, 8, 14, 15, 16, 17, 18, 35, 36, 37, 38, 39, 40, 41, 42, 43, 44, 45, 46, 47, 48, 49, 50, 51, 52, 53, 54, 55, 56, 57, 58, 59, 60, 61, 62, 63, 64, 65, 66, 67, 68, 69, 70, 71, 72, 73, 74, 75, 76, 77, 78, 79, 80, 81, 82, 83, 84, 85, 86, 87, 88, 89, 139, 140, 141, 142, 143, 144, 145, 146, 147, 148, 149, 150] (by decide +kernel) (by decide +kernel)
set_option maxRecDepth 20000 in
theorem gX2_cost_X2_liftedWith : GoodIn wsX2_cost (wsV RX2 159 RX2 yX2_liftedWith wsX2_liftedWith) := goodIn_app (goodIn_of _ (by decide +kernel)) ggX2_cost_X2_liftedWith
set_option maxRecDepth 20000 in
theorem ggX2_cost_X2_isPossible : GoodIn wsX2_cost wsX2_isPossible := goodIn_r _ [93, 13, 94, 95, 96, 4, 97, 98, 51, 52, 53, 99, 64, 65, 31, 32, 33, 34, 8, 14, 15, 16, 17, 18, 35, 36, 37, 38, 39, 40, 41, 28, 29, 30, 42, 43, 44, 45, 46, 47, 48, 49, 50, 54, 55, 56, 57, 58, 59, 60, 61, 62, 63, 66, 67, 68, 69, 70, 71, 72, 73, 74, 75, 76, 77, 78, 79, 80, 81, 82, 83, 84, 85, 86, 87, 88, 89, 139, 140, 141, 142, 143, 144, 145, 146, 147, 148, 149, 150] (by decide +kernel) (by decide +kernel)
set_option maxRecDepth 20000 in
theorem gX2_cost_X2_isPossible : GoodIn wsX2_cost (wsV RX2 169 RX2 yX2_isPossible wsX2_isPossible) := goodIn_app (goodIn_of _ (by decide +kernel)) ggX2_cost_X2_isPossible
set_option maxRecDepth 20000 in
theorem ggX2_cost_X2_costOf : GoodIn wsX2_cost wsX2_costOf := goodIn_r _ [103, 104, 105, 106, 107, 108, 109, 110, 111, 112, 113, 114, 115, 4, 116, 117, 118, 119, 120, 121, 122, 123, 124, 125, 126, 13, 8, 14, 15, 16, 17, 18, 39, 40, 41, 28, 29, 30, 127, 128, 129, 70, 71, 72, 73, 45, 46, 47, 48, 49, 50, 51, 52, 53, 59, 60, 61, 62, 63, 64, 65, 54, 55, 56, 57, 58, 66, 67, 68, 69, 130, 131, 132, 133, 78, 79, 80, 81, 82, 83, 84, 85, 86, 87, 88, 89, 134, 135, 136, 137, 138, 139, 140, 141, 142, 143, 144, 145, 146, 147, 151, 152, 153, 154, 155, 156, 157, 158, 159, 148, 149, 150] (by decide +kernel) (by decide +kernel)
set_option maxRecDepth 20000 in
theorem gX2_cost_X2_costOf : GoodIn wsX2_cost (wsV RX2 173 RX2 yX2_costOf wsX2_costOf) := goodIn_app (goodIn_of _ (by decide +kernel)) ggX2_cost_X2_costOf
theorem dX2_cost_0 : decode cX2_cost 0 = .ok (.aload_n 0, 1) := by decide +kernel
theorem dX2_cost_1 : decode cX2_cost 1 = .ok (.iload_n 1, 1) := by decide +kernel
theorem dX2_cost_2 : decode cX2_cost 2 = .ok (.iload_n 2, 1) := by decide +kernel
theorem dX2_cost_3 : decode cX2_cost 3 = .ok (.invokevirtual 152, 3) := by decide +kernel
theorem dX2_cost_6 : decode cX2_cost 6 = .ok (.iload_n 3, 1) := by decide +kernel
theorem dX2_cost_7 : decode cX2_cost 7 = .ok (.invokestatic 118, 3) := by decide +kernel
theorem dX2_cost_10 : decode cX2_cost 10 = .ok (.aload_n 0, 1) := by decide +kernel
theorem dX2_cost_11 : decode cX2_cost 11 = .ok (.iload_n 1, 1) := by decide +kernel
theorem dX2_cost_12 : decode cX2_cost 12 = .ok (.iload_n 2, 1) := by decide +kernel
theorem dX2_cost_13 : decode cX2_cost 13 = .ok (.invokevirtual 159, 3) := by decide +kernel
theorem dX2_cost_16 : decode cX2_cost 16 = .ok (.lstore 4, 2) := by decide +kernel
theorem dX2_cost_18 : decode cX2_cost 18 = .ok (.aload_n 0, 1) := by decide +kernel
theorem dX2_cost_19 : decode cX2_cost 19 = .ok (.lload 4, 2) := by decide +kernel
theorem dX2_cost_21 : decode cX2_cost 21 = .ok (.invokevirtual 169, 3) := by decide +kernel
theorem dX2_cost_24 : decode cX2_cost 24 = .ok (.ifCond .eq 13, 3) := by decide +kernel
theorem dX2_cost_27 : decode cX2_cost 27 = .ok (.aload_n 0, 1) := by decide +kernel
theorem dX2_cost_28 : decode cX2_cost 28 = .ok (.lload 4, 2) := by decide +kernel
theorem dX2_cost_30 : decode cX2_cost 30 = .ok (.iload_n 3, 1) := by decide +kernel
theorem dX2_cost_31 : decode cX2_cost 31 = .ok (.invokevirtual 173, 3) := by decide +kernel
theorem dX2_cost_34 : decode cX2_cost 34 = .ok (.goto 4, 3) := by decide +kernel
theorem dX2_cost_37 : decode cX2_cost 37 = .ok (.iconst (-1), 1) := by decide +kernel
theorem dX2_cost_38 : decode cX2_cost 38 = .ok (.ireturn, 1) := by decide +kernel
set_option maxRecDepth 20000 in
theorem ggX2_repair_X2_demandPiece : GoodIn wsX2_repair wsX2_demandPiece := goodIn_ca (goodIn_r _ [8, 9, 10, 11, 12, 13, 14, 7, 15, 16, 17, 18, 19, 20, 21, 146, 147, 148, 149, 150, 151, 152, 153, 154, 155, 156, 157] (by decide +kernel) (by decide +kernel)) (goodIn_sub (fun _ h => List.mem_cons_of_mem _ (List.mem_append_left _ (List.mem_append_right _ h))) (by decide +kernel))
set_option maxRecDepth 20000 in
theorem gX2_repair_X2_demandPiece : GoodIn wsX2_repair (wsV RX2 152 RX2 yX2_demandPiece wsX2_demandPiece) := goodIn_app (goodIn_of _ (by decide +kernel)) ggX2_repair_X2_demandPiece
set_option maxRecDepth 20000 in
theorem ggX2_repair_X2_demandMonth : GoodIn wsX2_repair wsX2_demandMonth := goodIn_ca (goodIn_r _ [24, 25, 26] (by decide +kernel) (by decide +kernel)) (goodIn_sub (fun _ h => List.mem_cons_of_mem _ (List.mem_append_right _ h)) (by decide +kernel))
set_option maxRecDepth 20000 in
theorem gX2_repair_X2_demandMonth : GoodIn wsX2_repair (va_wsS RX2 118 yX2_demandMonth wsX2_demandMonth) := goodIn_app (goodIn_of _ (by decide +kernel)) ggX2_repair_X2_demandMonth
set_option maxRecDepth 20000 in
theorem ggX2_repair_X2_liftedWith : GoodIn wsX2_repair wsX2_liftedWith := goodIn_r _ [30, 16, 31, 32, 7, 33, 34, 35, 36, 37, 11, 17, 18, 19, 20, 21, 38, 39, 40, 41, 42, 43, 44, 45, 46, 47, 48, 49, 50, 51, 52, 53, 54, 55, 56, 57, 58, 59, 60, 61, 62, 63, 64, 65, 66, 67, 68, 69, 70, 71, 72, 73, 74, 75, 76, 77, 78, 79, 80, 81, 82, 83, 84, 85, 86, 87, 88, 89, 90, 91, 92, 146, 147, 148, 149, 150, 151, 152, 153, 154, 155, 156, 157] (by decide +kernel) (by decide +kernel)
set_option maxRecDepth 20000 in
theorem gX2_repair_X2_liftedWith : GoodIn wsX2_repair (wsV RX2 159 RX2 yX2_liftedWith wsX2_liftedWith) := goodIn_app (goodIn_of _ (by decide +kernel)) ggX2_repair_X2_liftedWith
set_option maxRecDepth 20000 in
theorem ggX2_repair_X2_isPossible : GoodIn wsX2_repair wsX2_isPossible := goodIn_r _ [96, 16, 97, 98, 99, 7, 100, 101, 54, 55, 56, 102, 67, 68, 34, 35, 36, 37, 11, 17, 18, 19, 20, 21, 38, 39, 40, 41, 42, 43, 44, 31, 32, 33, 45, 46, 47, 48, 49, 50, 51, 52, 53, 57, 58, 59, 60, 61, 62, 63, 64, 65, 66, 69, 70, 71, 72, 73, 74, 75, 76, 77, 78, 79, 80, 81, 82, 83, 84, 85, 86, 87, 88, 89, 90, 91, 92, 146, 147, 148, 149, 150, 151, 152, 153, 154, 155, 156, 157] (by decide +kernel) (by decide +kernel)
set_option maxRecDepth 20000 in
theorem gX2_repair_X2_isPossible : GoodIn wsX2_repair (wsV RX2 169 RX2 yX2_isPossible wsX2_isPossible) := goodIn_app (goodIn_of _ (by decide +kernel)) ggX2_repair_X2_isPossible
set_option maxRecDepth 20000 in
theorem ggX2_repair_X2_payGrounds : GoodIn wsX2_repair wsX2_payGrounds := goodIn_r _ [106, 107, 108, 109, 110, 111, 7, 112, 113, 114, 115, 116, 117, 118, 119, 120, 121, 122, 16, 11, 17, 18, 19, 20, 21, 42, 43, 44, 31, 32, 33, 123, 124, 125, 73, 74, 75, 76, 48, 49, 50, 51, 52, 53, 54, 55, 56, 62, 63, 64, 65, 66, 67, 68, 57, 58, 59, 60, 61, 69, 70, 71, 72, 126, 127, 128, 129, 81, 82, 83, 84, 85, 86, 87, 88, 89, 90, 91, 92, 130, 131, 132, 133, 134, 146, 147, 148, 149, 150, 151, 152, 153, 154, 158, 159, 160, 161, 162, 163, 164, 165, 166, 155, 156, 157] (by decide +kernel) (by decide +kernel)
set_option maxRecDepth 20000 in
theorem gX2_repair_X2_payGrounds : GoodIn wsX2_repair (wsV RX2 179 RX2 yX2_payGrounds wsX2_payGrounds) := goodIn_app (goodIn_of _ (by decide +kernel)) ggX2_repair_X2_payGrounds
set_option maxRecDepth 20000 in
theorem ggX2_repair_X2_costOf : GoodIn wsX2_repair wsX2_costOf := goodIn_r _ [138, 107, 108, 139, 140, 141, 142, 143, 144, 145, 109, 110, 111, 7, 112, 113, 114, 115, 116, 117, 118, 119, 120, 121, 122, 16, 11, 17, 18, 19, 20, 21, 42, 43, 44, 31, 32, 33, 123, 124, 125, 73, 74, 75, 76, 48, 49, 50, 51, 52, 53, 54, 55, 56, 62, 63, 64, 65, 66, 67, 68, 57, 58, 59, 60, 61, 69, 70, 71, 72, 126, 127, 128, 129, 81, 82, 83, 84, 85, 86, 87, 88, 89, 90, 91, 92, 130, 131, 132, 133, 134, 146, 147, 148, 149, 150, 151, 152, 153, 154, 158, 159, 160, 161, 162, 163, 164, 165, 166, 155, 156, 157] (by decide +kernel) (by decide +kernel)
set_option maxRecDepth 20000 in
theorem gX2_repair_X2_costOf : GoodIn wsX2_repair (wsV RX2 173 RX2 yX2_costOf wsX2_costOf) := goodIn_app (goodIn_of _ (by decide +kernel)) ggX2_repair_X2_costOf
theorem dX2_repair_0 : decode cX2_repair 0 = .ok (.aload_n 0, 1) := by decide +kernel
theorem dX2_repair_1 : decode cX2_repair 1 = .ok (.iload_n 1, 1) := by decide +kernel
theorem dX2_repair_2 : decode cX2_repair 2 = .ok (.iload_n 2, 1) := by decide +kernel
theorem dX2_repair_3 : decode cX2_repair 3 = .ok (.invokevirtual 152, 3) := by decide +kernel
theorem dX2_repair_6 : decode cX2_repair 6 = .ok (.iload_n 3, 1) := by decide +kernel
theorem dX2_repair_7 : decode cX2_repair 7 = .ok (.invokestatic 118, 3) := by decide +kernel
theorem dX2_repair_10 : decode cX2_repair 10 = .ok (.aload_n 0, 1) := by decide +kernel
theorem dX2_repair_11 : decode cX2_repair 11 = .ok (.iload_n 1, 1) := by decide +kernel
theorem dX2_repair_12 : decode cX2_repair 12 = .ok (.iload_n 2, 1) := by decide +kernel
theorem dX2_repair_13 : decode cX2_repair 13 = .ok (.invokevirtual 159, 3) := by decide +kernel
theorem dX2_repair_16 : decode cX2_repair 16 = .ok (.lstore 4, 2) := by decide +kernel
theorem dX2_repair_18 : decode cX2_repair 18 = .ok (.aload_n 0, 1) := by decide +kernel
theorem dX2_repair_19 : decode cX2_repair 19 = .ok (.getfield 44, 3) := by decide +kernel
theorem dX2_repair_22 : decode cX2_repair 22 = .ok (.sipush 500, 3) := by decide +kernel
theorem dX2_repair_25 : decode cX2_repair 25 = .ok (.if_icmp .ge 12, 3) := by decide +kernel
theorem dX2_repair_28 : decode cX2_repair 28 = .ok (.aload_n 0, 1) := by decide +kernel
theorem dX2_repair_29 : decode cX2_repair 29 = .ok (.lload 4, 2) := by decide +kernel
theorem dX2_repair_31 : decode cX2_repair 31 = .ok (.invokevirtual 169, 3) := by decide +kernel
theorem dX2_repair_34 : decode cX2_repair 34 = .ok (.ifCond .ne 13, 3) := by decide +kernel
theorem dX2_repair_37 : decode cX2_repair 37 = .ok (.new 59, 3) := by decide +kernel
