theorem dX2_repair_40 : decode cX2_repair 40 = .ok (.dup, 1) := by decide +kernel
theorem dX2_repair_41 : decode cX2_repair 41 = .ok (.ldc 177, 2) := by decide +kernel
theorem dX2_repair_43 : decode cX2_repair 43 = .ok (.invokespecial 63, 3) := by decide +kernel
theorem dX2_repair_46 : decode cX2_repair 46 = .ok (.athrow, 1) := by decide +kernel
theorem dX2_repair_47 : decode cX2_repair 47 = .ok (.aload_n 0, 1) := by decide +kernel
theorem dX2_repair_48 : decode cX2_repair 48 = .ok (.dup, 1) := by decide +kernel
theorem dX2_repair_49 : decode cX2_repair 49 = .ok (.getfield 44, 3) := by decide +kernel
theorem dX2_repair_52 : decode cX2_repair 52 = .ok (.iconst 1, 1) := by decide +kernel
theorem dX2_repair_53 : decode cX2_repair 53 = .ok (.iadd, 1) := by decide +kernel
theorem dX2_repair_54 : decode cX2_repair 54 = .ok (.putfield 44, 3) := by decide +kernel
theorem dX2_repair_57 : decode cX2_repair 57 = .ok (.aload_n 0, 1) := by decide +kernel
theorem dX2_repair_58 : decode cX2_repair 58 = .ok (.lload 4, 2) := by decide +kernel
theorem dX2_repair_60 : decode cX2_repair 60 = .ok (.iload_n 3, 1) := by decide +kernel
theorem dX2_repair_61 : decode cX2_repair 61 = .ok (.invokevirtual 179, 3) := by decide +kernel
theorem dX2_repair_64 : decode cX2_repair 64 = .ok (.aload_n 0, 1) := by decide +kernel
theorem dX2_repair_65 : decode cX2_repair 65 = .ok (.lload 4, 2) := by decide +kernel
theorem dX2_repair_67 : decode cX2_repair 67 = .ok (.iload_n 3, 1) := by decide +kernel
theorem dX2_repair_68 : decode cX2_repair 68 = .ok (.invokevirtual 173, 3) := by decide +kernel
theorem dX2_repair_71 : decode cX2_repair 71 = .ok (.ireturn, 1) := by decide +kernel
set_option maxRecDepth 20000 in
theorem ggX2_paid_X2_demandGround : GoodIn wsX2_paid wsX2_demandGround := goodIn_ca (goodIn_r _ [6, 7, 8, 9, 10, 11, 12, 13, 14, 15, 16, 17, 18] (by decide +kernel) (by decide +kernel)) (goodIn_sub (fun _ h => List.mem_cons_of_mem _ (List.mem_append_right _ h)) (by decide +kernel))
set_option maxRecDepth 20000 in
theorem gX2_paid_X2_demandGround : GoodIn wsX2_paid (wsV RX2 131 RX2 yX2_demandGround wsX2_demandGround) := goodIn_app (goodIn_of _ (by decide +kernel)) ggX2_paid_X2_demandGround
theorem dX2_paid_0 : decode cX2_paid 0 = .ok (.aload_n 0, 1) := by decide +kernel
theorem dX2_paid_1 : decode cX2_paid 1 = .ok (.iload_n 1, 1) := by decide +kernel
theorem dX2_paid_2 : decode cX2_paid 2 = .ok (.invokevirtual 131, 3) := by decide +kernel
theorem dX2_paid_5 : decode cX2_paid 5 = .ok (.aload_n 0, 1) := by decide +kernel
theorem dX2_paid_6 : decode cX2_paid 6 = .ok (.getfield 37, 3) := by decide +kernel
theorem dX2_paid_9 : decode cX2_paid 9 = .ok (.iload_n 1, 1) := by decide +kernel
theorem dX2_paid_10 : decode cX2_paid 10 = .ok (.aaload, 1) := by decide +kernel
theorem dX2_paid_11 : decode cX2_paid 11 = .ok (.getfield 183, 3) := by decide +kernel
theorem dX2_paid_14 : decode cX2_paid 14 = .ok (.ireturn, 1) := by decide +kernel
theorem dX2_demandPlace_0 : decode cX2_demandPlace 0 = .ok (.iload_n 0, 1) := by decide +kernel
theorem dX2_demandPlace_1 : decode cX2_demandPlace 1 = .ok (.ifCond .lt 19, 3) := by decide +kernel
theorem dX2_demandPlace_4 : decode cX2_demandPlace 4 = .ok (.iload_n 0, 1) := by decide +kernel
theorem dX2_demandPlace_5 : decode cX2_demandPlace 5 = .ok (.bipush 99, 2) := by decide +kernel
theorem dX2_demandPlace_7 : decode cX2_demandPlace 7 = .ok (.if_icmp .gt 13, 3) := by decide +kernel
theorem dX2_demandPlace_10 : decode cX2_demandPlace 10 = .ok (.iload_n 1, 1) := by decide +kernel
theorem dX2_demandPlace_11 : decode cX2_demandPlace 11 = .ok (.ifCond .lt 9, 3) := by decide +kernel
theorem dX2_demandPlace_14 : decode cX2_demandPlace 14 = .ok (.iload_n 1, 1) := by decide +kernel
theorem dX2_demandPlace_15 : decode cX2_demandPlace 15 = .ok (.bipush 99, 2) := by decide +kernel
theorem dX2_demandPlace_17 : decode cX2_demandPlace 17 = .ok (.if_icmp .le 13, 3) := by decide +kernel
theorem dX2_demandPlace_20 : decode cX2_demandPlace 20 = .ok (.new 113, 3) := by decide +kernel
theorem dX2_demandPlace_23 : decode cX2_demandPlace 23 = .ok (.dup, 1) := by decide +kernel
theorem dX2_demandPlace_24 : decode cX2_demandPlace 24 = .ok (.ldc 186, 2) := by decide +kernel
theorem dX2_demandPlace_26 : decode cX2_demandPlace 26 = .ok (.invokespecial 117, 3) := by decide +kernel
theorem dX2_demandPlace_29 : decode cX2_demandPlace 29 = .ok (.athrow, 1) := by decide +kernel
theorem dX2_demandPlace_30 : decode cX2_demandPlace 30 = .ok (.return_, 1) := by decide +kernel
theorem dX2_demandMonth_0 : decode cX2_demandMonth 0 = .ok (.iload_n 0, 1) := by decide +kernel
theorem dX2_demandMonth_1 : decode cX2_demandMonth 1 = .ok (.ifCond .lt 9, 3) := by decide +kernel
theorem dX2_demandMonth_4 : decode cX2_demandMonth 4 = .ok (.iload_n 0, 1) := by decide +kernel
theorem dX2_demandMonth_5 : decode cX2_demandMonth 5 = .ok (.bipush 11, 2) := by decide +kernel
theorem dX2_demandMonth_7 : decode cX2_demandMonth 7 = .ok (.if_icmp .le 13, 3) := by decide +kernel
theorem dX2_demandMonth_10 : decode cX2_demandMonth 10 = .ok (.new 113, 3) := by decide +kernel
theorem dX2_demandMonth_13 : decode cX2_demandMonth 13 = .ok (.dup, 1) := by decide +kernel
theorem dX2_demandMonth_14 : decode cX2_demandMonth 14 = .ok (.ldc 188, 2) := by decide +kernel
theorem dX2_demandMonth_16 : decode cX2_demandMonth 16 = .ok (.invokespecial 117, 3) := by decide +kernel
theorem dX2_demandMonth_19 : decode cX2_demandMonth 19 = .ok (.athrow, 1) := by decide +kernel
theorem dX2_demandMonth_20 : decode cX2_demandMonth 20 = .ok (.return_, 1) := by decide +kernel
theorem dX2_demandCable_0 : decode cX2_demandCable 0 = .ok (.iload_n 1, 1) := by decide +kernel
theorem dX2_demandCable_1 : decode cX2_demandCable 1 = .ok (.ifCond .lt 11, 3) := by decide +kernel
theorem dX2_demandCable_4 : decode cX2_demandCable 4 = .ok (.iload_n 1, 1) := by decide +kernel
theorem dX2_demandCable_5 : decode cX2_demandCable 5 = .ok (.aload_n 0, 1) := by decide +kernel
theorem dX2_demandCable_6 : decode cX2_demandCable 6 = .ok (.getfield 20, 3) := by decide +kernel
theorem dX2_demandCable_9 : decode cX2_demandCable 9 = .ok (.if_icmp .lt 13, 3) := by decide +kernel
theorem dX2_demandCable_12 : decode cX2_demandCable 12 = .ok (.new 190, 3) := by decide +kernel
theorem dX2_demandCable_15 : decode cX2_demandCable 15 = .ok (.dup, 1) := by decide +kernel
theorem dX2_demandCable_16 : decode cX2_demandCable 16 = .ok (.ldc 192, 2) := by decide +kernel
theorem dX2_demandCable_18 : decode cX2_demandCable 18 = .ok (.invokespecial 194, 3) := by decide +kernel
theorem dX2_demandCable_21 : decode cX2_demandCable 21 = .ok (.athrow, 1) := by decide +kernel
theorem dX2_demandCable_22 : decode cX2_demandCable 22 = .ok (.return_, 1) := by decide +kernel
set_option maxRecDepth 20000 in
theorem ggX2_demandCables_X2_demandCable : GoodIn wsX2_demandCables wsX2_demandCable := goodIn_ca (goodIn_r _ [5, 6, 7, 8, 9, 10, 11, 12, 13, 14, 15, 16, 17] (by decide +kernel) (by decide +kernel)) (goodIn_sub (fun _ h => List.mem_cons_of_mem _ (List.mem_append_right _ h)) (by decide +kernel))
set_option maxRecDepth 20000 in
theorem gX2_demandCables_X2_demandCable : GoodIn wsX2_demandCables (wsV RX2 195 RX2 yX2_demandCable wsX2_demandCable) := goodIn_app (goodIn_of _ (by decide +kernel)) ggX2_demandCables_X2_demandCable
theorem dX2_demandCables_0 : decode cX2_demandCables 0 = .ok (.aload_n 0, 1) := by decide +kernel
theorem dX2_demandCables_1 : decode cX2_demandCables 1 = .ok (.iload_n 1, 1) := by decide +kernel
theorem dX2_demandCables_2 : decode cX2_demandCables 2 = .ok (.invokevirtual 195, 3) := by decide +kernel
theorem dX2_demandCables_5 : decode cX2_demandCables 5 = .ok (.aload_n 0, 1) := by decide +kernel
theorem dX2_demandCables_6 : decode cX2_demandCables 6 = .ok (.iload_n 2, 1) := by decide +kernel
theorem dX2_demandCables_7 : decode cX2_demandCables 7 = .ok (.invokevirtual 195, 3) := by decide +kernel
theorem dX2_demandCables_10 : decode cX2_demandCables 10 = .ok (.return_, 1) := by decide +kernel
set_option maxRecDepth 20000 in
theorem ggX2_demandPoint_X2_demandCable : GoodIn wsX2_demandPoint wsX2_demandCable := goodIn_ca (goodIn_r _ [8, 1, 2, 9, 10, 11, 12, 13, 14, 15, 16, 17, 18] (by decide +kernel) (by decide +kernel)) (goodIn_sub (fun _ h => List.mem_cons_of_mem _ (List.mem_append_right _ h)) (by decide +kernel))
set_option maxRecDepth 20000 in
theorem gX2_demandPoint_X2_demandCable : GoodIn wsX2_demandPoint (wsV RX2 195 RX2 yX2_demandCable wsX2_demandCable) := goodIn_app (goodIn_of _ (by decide +kernel)) ggX2_demandPoint_X2_demandCable
theorem dX2_demandPoint_0 : decode cX2_demandPoint 0 = .ok (.aload_n 0, 1) := by decide +kernel
theorem dX2_demandPoint_1 : decode cX2_demandPoint 1 = .ok (.iload_n 1, 1) := by decide +kernel
theorem dX2_demandPoint_2 : decode cX2_demandPoint 2 = .ok (.invokevirtual 195, 3) := by decide +kernel
theorem dX2_demandPoint_5 : decode cX2_demandPoint 5 = .ok (.iload_n 2, 1) := by decide +kernel
theorem dX2_demandPoint_6 : decode cX2_demandPoint 6 = .ok (.ifCond .lt 16, 3) := by decide +kernel
theorem dX2_demandPoint_9 : decode cX2_demandPoint 9 = .ok (.iload_n 2, 1) := by decide +kernel
theorem dX2_demandPoint_10 : decode cX2_demandPoint 10 = .ok (.aload_n 0, 1) := by decide +kernel
theorem dX2_demandPoint_11 : decode cX2_demandPoint 11 = .ok (.getfield 16, 3) := by decide +kernel
theorem dX2_demandPoint_14 : decode cX2_demandPoint 14 = .ok (.iload_n 1, 1) := by decide +kernel
theorem dX2_demandPoint_15 : decode cX2_demandPoint 15 = .ok (.aaload, 1) := by decide +kernel
theorem dX2_demandPoint_16 : decode cX2_demandPoint 16 = .ok (.getfield 52, 3) := by decide +kernel
theorem dX2_demandPoint_19 : decode cX2_demandPoint 19 = .ok (.if_icmp .lt 13, 3) := by decide +kernel
theorem dX2_demandPoint_22 : decode cX2_demandPoint 22 = .ok (.new 190, 3) := by decide +kernel
theorem dX2_demandPoint_25 : decode cX2_demandPoint 25 = .ok (.dup, 1) := by decide +kernel
theorem dX2_demandPoint_26 : decode cX2_demandPoint 26 = .ok (.ldc 198, 2) := by decide +kernel
theorem dX2_demandPoint_28 : decode cX2_demandPoint 28 = .ok (.invokespecial 194, 3) := by decide +kernel
theorem dX2_demandPoint_31 : decode cX2_demandPoint 31 = .ok (.athrow, 1) := by decide +kernel
theorem dX2_demandPoint_32 : decode cX2_demandPoint 32 = .ok (.return_, 1) := by decide +kernel
set_option maxRecDepth 20000 in
theorem ggX2_demandPiece_X2_demandCable : GoodIn wsX2_demandPiece wsX2_demandCable := goodIn_ca (goodIn_r _ [8, 1, 2, 9, 15, 16, 17, 18, 19, 20, 21, 22, 23] (by decide +kernel) (by decide +kernel)) (goodIn_sub (fun _ h => List.mem_cons_of_mem _ (List.mem_append_right _ h)) (by decide +kernel))
set_option maxRecDepth 20000 in
theorem gX2_demandPiece_X2_demandCable : GoodIn wsX2_demandPiece (wsV RX2 195 RX2 yX2_demandCable wsX2_demandCable) := goodIn_app (goodIn_of _ (by decide +kernel)) ggX2_demandPiece_X2_demandCable
set_option maxRecDepth 20000 in
theorem ggX2_demandPiece_X1_pieces : GoodIn wsX2_demandPiece wsX1_pieces := goodIn_r _ [13, 14, 24, 25, 26] (by decide +kernel) (by decide +kernel)
set_option maxRecDepth 20000 in
theorem gX2_demandPiece_X1_pieces_n200 : GoodIn wsX2_demandPiece (wsX1_pieces) := ggX2_demandPiece_X1_pieces
theorem dX2_demandPiece_0 : decode cX2_demandPiece 0 = .ok (.aload_n 0, 1) := by decide +kernel
theorem dX2_demandPiece_1 : decode cX2_demandPiece 1 = .ok (.iload_n 1, 1) := by decide +kernel
theorem dX2_demandPiece_2 : decode cX2_demandPiece 2 = .ok (.invokevirtual 195, 3) := by decide +kernel
theorem dX2_demandPiece_5 : decode cX2_demandPiece 5 = .ok (.iload_n 2, 1) := by decide +kernel
theorem dX2_demandPiece_6 : decode cX2_demandPiece 6 = .ok (.ifCond .lt 16, 3) := by decide +kernel
theorem dX2_demandPiece_9 : decode cX2_demandPiece 9 = .ok (.iload_n 2, 1) := by decide +kernel
theorem dX2_demandPiece_10 : decode cX2_demandPiece 10 = .ok (.aload_n 0, 1) := by decide +kernel
theorem dX2_demandPiece_11 : decode cX2_demandPiece 11 = .ok (.getfield 16, 3) := by decide +kernel
theorem dX2_demandPiece_14 : decode cX2_demandPiece 14 = .ok (.iload_n 1, 1) := by decide +kernel
theorem dX2_demandPiece_15 : decode cX2_demandPiece 15 = .ok (.aaload, 1) := by decide +kernel
theorem dX2_demandPiece_16 : decode cX2_demandPiece 16 = .ok (.invokevirtual 200, 3) := by decide +kernel
theorem dX2_demandPiece_19 : decode cX2_demandPiece 19 = .ok (.if_icmp .lt 13, 3) := by decide +kernel
theorem dX2_demandPiece_22 : decode cX2_demandPiece 22 = .ok (.new 190, 3) := by decide +kernel
theorem dX2_demandPiece_25 : decode cX2_demandPiece 25 = .ok (.dup, 1) := by decide +kernel
theorem dX2_demandPiece_26 : decode cX2_demandPiece 26 = .ok (.ldc 203, 2) := by decide +kernel
theorem dX2_demandPiece_28 : decode cX2_demandPiece 28 = .ok (.invokespecial 194, 3) := by decide +kernel
theorem dX2_demandPiece_31 : decode cX2_demandPiece 31 = .ok (.athrow, 1) := by decide +kernel
theorem dX2_demandPiece_32 : decode cX2_demandPiece 32 = .ok (.return_, 1) := by decide +kernel
theorem dX2_demandGround_0 : decode cX2_demandGround 0 = .ok (.iload_n 1, 1) := by decide +kernel
theorem dX2_demandGround_1 : decode cX2_demandGround 1 = .ok (.ifCond .lt 11, 3) := by decide +kernel
theorem dX2_demandGround_4 : decode cX2_demandGround 4 = .ok (.iload_n 1, 1) := by decide +kernel
theorem dX2_demandGround_5 : decode cX2_demandGround 5 = .ok (.aload_n 0, 1) := by decide +kernel
theorem dX2_demandGround_6 : decode cX2_demandGround 6 = .ok (.getfield 41, 3) := by decide +kernel
theorem dX2_demandGround_9 : decode cX2_demandGround 9 = .ok (.if_icmp .lt 13, 3) := by decide +kernel
theorem dX2_demandGround_12 : decode cX2_demandGround 12 = .ok (.new 190, 3) := by decide +kernel
theorem dX2_demandGround_15 : decode cX2_demandGround 15 = .ok (.dup, 1) := by decide +kernel
theorem dX2_demandGround_16 : decode cX2_demandGround 16 = .ok (.ldc 205, 2) := by decide +kernel
theorem dX2_demandGround_18 : decode cX2_demandGround 18 = .ok (.invokespecial 194, 3) := by decide +kernel
theorem dX2_demandGround_21 : decode cX2_demandGround 21 = .ok (.athrow, 1) := by decide +kernel
theorem dX2_demandGround_22 : decode cX2_demandGround 22 = .ok (.return_, 1) := by decide +kernel
theorem dX2_pairOf_0 : decode cX2_pairOf 0 = .ok (.bipush 8, 2) := by decide +kernel
theorem dX2_pairOf_2 : decode cX2_pairOf 2 = .ok (.iload_n 0, 1) := by decide +kernel
theorem dX2_pairOf_3 : decode cX2_pairOf 3 = .ok (.iload_n 1, 1) := by decide +kernel
theorem dX2_pairOf_4 : decode cX2_pairOf 4 = .ok (.invokestatic 207, 3) := by decide +kernel
theorem dX2_pairOf_7 : decode cX2_pairOf 7 = .ok (.imul, 1) := by decide +kernel
theorem dX2_pairOf_8 : decode cX2_pairOf 8 = .ok (.iload_n 0, 1) := by decide +kernel
theorem dX2_pairOf_9 : decode cX2_pairOf 9 = .ok (.iload_n 1, 1) := by decide +kernel
theorem dX2_pairOf_10 : decode cX2_pairOf 10 = .ok (.invokestatic 212, 3) := by decide +kernel
theorem dX2_pairOf_13 : decode cX2_pairOf 13 = .ok (.iadd, 1) := by decide +kernel
theorem dX2_pairOf_14 : decode cX2_pairOf 14 = .ok (.ireturn, 1) := by decide +kernel
set_option maxRecDepth 20000 in
theorem ggX2_recount_X2_pairOf : GoodIn wsX2_recount wsX2_pairOf := goodIn_r _ [7, 8, 9, 10, 11, 12, 13, 14] (by decide +kernel) (by decide +kernel)
set_option maxRecDepth 20000 in
theorem gX2_recount_X2_pairOf : GoodIn wsX2_recount (va_wsS RX2 96 yX2_pairOf wsX2_pairOf) := goodIn_app (goodIn_of _ (by decide +kernel)) ggX2_recount_X2_pairOf
set_option maxRecDepth 20000 in
theorem ggX2_recount_X2_countCrossings : GoodIn wsX2_recount wsX2_countCrossings := goodIn_r _ [17, 18, 19, 20, 21, 22, 23, 24, 25, 26, 27, 28, 29, 30, 31, 9, 10, 11, 32, 33, 34, 35, 36, 37, 38, 39, 40, 41, 13, 14, 42, 43, 44, 45, 46, 47, 48, 49, 50, 51, 52, 53, 54, 55, 56, 57, 58, 59, 60, 61, 62, 63, 64, 65, 66, 67, 68, 69, 70, 71, 81, 82, 83] (by decide +kernel) (by decide +kernel)
set_option maxRecDepth 20000 in
theorem gX2_recount_X2_countCrossings : GoodIn wsX2_recount (va_wsS RX2 99 yX2_countCrossings wsX2_countCrossings) := goodIn_app (goodIn_of _ (by decide +kernel)) ggX2_recount_X2_countCrossings
theorem dX2_recount_0 : decode cX2_recount 0 = .ok (.iload_n 1, 1) := by decide +kernel
theorem dX2_recount_1 : decode cX2_recount 1 = .ok (.iload_n 2, 1) := by decide +kernel
theorem dX2_recount_2 : decode cX2_recount 2 = .ok (.invokestatic 96, 3) := by decide +kernel
theorem dX2_recount_5 : decode cX2_recount 5 = .ok (.istore_n 3, 1) := by decide +kernel
theorem dX2_recount_6 : decode cX2_recount 6 = .ok (.aload_n 0, 1) := by decide +kernel
theorem dX2_recount_7 : decode cX2_recount 7 = .ok (.getfield 24, 3) := by decide +kernel
theorem dX2_recount_10 : decode cX2_recount 10 = .ok (.iload_n 3, 1) := by decide +kernel
theorem dX2_recount_11 : decode cX2_recount 11 = .ok (.aload_n 0, 1) := by decide +kernel
theorem dX2_recount_12 : decode cX2_recount 12 = .ok (.getfield 16, 3) := by decide +kernel
theorem dX2_recount_15 : decode cX2_recount 15 = .ok (.iload_n 1, 1) := by decide +kernel
theorem dX2_recount_16 : decode cX2_recount 16 = .ok (.aaload, 1) := by decide +kernel
theorem dX2_recount_17 : decode cX2_recount 17 = .ok (.aload_n 0, 1) := by decide +kernel
theorem dX2_recount_18 : decode cX2_recount 18 = .ok (.getfield 16, 3) := by decide +kernel
theorem dX2_recount_21 : decode cX2_recount 21 = .ok (.iload_n 2, 1) := by decide +kernel
theorem dX2_recount_22 : decode cX2_recount 22 = .ok (.aaload, 1) := by decide +kernel
theorem dX2_recount_23 : decode cX2_recount 23 = .ok (.iconst 0, 1) := by decide +kernel
theorem dX2_recount_24 : decode cX2_recount 24 = .ok (.invokestatic 99, 3) := by decide +kernel
theorem dX2_recount_27 : decode cX2_recount 27 = .ok (.iastore, 1) := by decide +kernel
theorem dX2_recount_28 : decode cX2_recount 28 = .ok (.aload_n 0, 1) := by decide +kernel
theorem dX2_recount_29 : decode cX2_recount 29 = .ok (.getfield 28, 3) := by decide +kernel
theorem dX2_recount_32 : decode cX2_recount 32 = .ok (.iload_n 3, 1) := by decide +kernel
theorem dX2_recount_33 : decode cX2_recount 33 = .ok (.aload_n 0, 1) := by decide +kernel
theorem dX2_recount_34 : decode cX2_recount 34 = .ok (.getfield 16, 3) := by decide +kernel
theorem dX2_recount_37 : decode cX2_recount 37 = .ok (.iload_n 1, 1) := by decide +kernel
theorem dX2_recount_38 : decode cX2_recount 38 = .ok (.aaload, 1) := by decide +kernel
theorem dX2_recount_39 : decode cX2_recount 39 = .ok (.aload_n 0, 1) := by decide +kernel
theorem dX2_recount_40 : decode cX2_recount 40 = .ok (.getfield 16, 3) := by decide +kernel
theorem dX2_recount_43 : decode cX2_recount 43 = .ok (.iload_n 2, 1) := by decide +kernel
theorem dX2_recount_44 : decode cX2_recount 44 = .ok (.aaload, 1) := by decide +kernel
theorem dX2_recount_45 : decode cX2_recount 45 = .ok (.iconst 1, 1) := by decide +kernel
theorem dX2_recount_46 : decode cX2_recount 46 = .ok (.invokestatic 99, 3) := by decide +kernel
theorem dX2_recount_49 : decode cX2_recount 49 = .ok (.iastore, 1) := by decide +kernel
theorem dX2_recount_50 : decode cX2_recount 50 = .ok (.return_, 1) := by decide +kernel
set_option maxRecDepth 20000 in
theorem ggX2_countCrossings_X1_pieces : GoodIn wsX2_countCrossings wsX1_pieces := goodIn_r _ [4, 5, 60, 61, 62] (by decide +kernel) (by decide +kernel)
set_option maxRecDepth 20000 in
theorem gX2_countCrossings_X1_pieces_n200 : GoodIn wsX2_countCrossings (wsX1_pieces) := ggX2_countCrossings_X1_pieces
set_option maxRecDepth 20000 in
theorem ggX2_countCrossings_X1_pieceCrosses : GoodIn wsX2_countCrossings wsX1_pieceCrosses := goodIn_r _ [8, 9, 10, 11, 2, 12, 13, 14, 15, 16, 17, 18, 19, 20, 21, 22, 23, 24, 25, 26, 27, 28, 29, 30, 31, 32, 33, 34, 35, 36, 37, 38, 39, 40, 41, 42, 43, 44, 45, 46, 47, 48, 49, 50, 51, 52, 53, 60, 61, 62] (by decide +kernel) (by decide +kernel)
set_option maxRecDepth 20000 in
theorem gX2_countCrossings_X1_pieceCrosses_n215 : GoodIn wsX2_countCrossings (wsX1_pieceCrosses) := ggX2_countCrossings_X1_pieceCrosses
set_option maxRecDepth 20000 in
theorem ggX2_countCrossings_X1_pieceIsSteepTo : GoodIn wsX2_countCrossings wsX1_pieceIsSteepTo := goodIn_r _ [56, 57, 58, 16, 59, 46, 47, 48, 2, 49, 13, 50, 51, 52, 53, 22, 60, 61, 62] (by decide +kernel) (by decide +kernel)
set_option maxRecDepth 20000 in
theorem gX2_countCrossings_X1_pieceIsSteepTo_n219 : GoodIn wsX2_countCrossings (wsX1_pieceIsSteepTo) := ggX2_countCrossings_X1_pieceIsSteepTo
theorem dX2_countCrossings_0 : decode cX2_countCrossings 0 = .ok (.iconst 0, 1) := by decide +kernel
theorem dX2_countCrossings_1 : decode cX2_countCrossings 1 = .ok (.istore_n 3, 1) := by decide +kernel
theorem dX2_countCrossings_2 : decode cX2_countCrossings 2 = .ok (.iconst 0, 1) := by decide +kernel
theorem dX2_countCrossings_3 : decode cX2_countCrossings 3 = .ok (.istore 4, 2) := by decide +kernel
theorem dX2_countCrossings_5 : decode cX2_countCrossings 5 = .ok (.iload 4, 2) := by decide +kernel
theorem dX2_countCrossings_7 : decode cX2_countCrossings 7 = .ok (.aload_n 0, 1) := by decide +kernel
theorem dX2_countCrossings_8 : decode cX2_countCrossings 8 = .ok (.invokevirtual 200, 3) := by decide +kernel
theorem dX2_countCrossings_11 : decode cX2_countCrossings 11 = .ok (.if_icmp .ge 58, 3) := by decide +kernel
theorem dX2_countCrossings_14 : decode cX2_countCrossings 14 = .ok (.iconst 0, 1) := by decide +kernel
theorem dX2_countCrossings_15 : decode cX2_countCrossings 15 = .ok (.istore 5, 2) := by decide +kernel
theorem dX2_countCrossings_17 : decode cX2_countCrossings 17 = .ok (.iload 5, 2) := by decide +kernel
theorem dX2_countCrossings_19 : decode cX2_countCrossings 19 = .ok (.aload_n 1, 1) := by decide +kernel
theorem dX2_countCrossings_20 : decode cX2_countCrossings 20 = .ok (.invokevirtual 200, 3) := by decide +kernel
theorem dX2_countCrossings_23 : decode cX2_countCrossings 23 = .ok (.if_icmp .ge 40, 3) := by decide +kernel
theorem dX2_countCrossings_26 : decode cX2_countCrossings 26 = .ok (.aload_n 0, 1) := by decide +kernel
theorem dX2_countCrossings_27 : decode cX2_countCrossings 27 = .ok (.iload 4, 2) := by decide +kernel
theorem dX2_countCrossings_29 : decode cX2_countCrossings 29 = .ok (.aload_n 1, 1) := by decide +kernel
theorem dX2_countCrossings_30 : decode cX2_countCrossings 30 = .ok (.iload 5, 2) := by decide +kernel
theorem dX2_countCrossings_32 : decode cX2_countCrossings 32 = .ok (.invokevirtual 215, 3) := by decide +kernel
theorem dX2_countCrossings_35 : decode cX2_countCrossings 35 = .ok (.ifCond .eq 22, 3) := by decide +kernel
theorem dX2_countCrossings_38 : decode cX2_countCrossings 38 = .ok (.iload_n 2, 1) := by decide +kernel
theorem dX2_countCrossings_39 : decode cX2_countCrossings 39 = .ok (.ifCond .eq 15, 3) := by decide +kernel
theorem dX2_countCrossings_42 : decode cX2_countCrossings 42 = .ok (.aload_n 0, 1) := by decide +kernel
theorem dX2_countCrossings_43 : decode cX2_countCrossings 43 = .ok (.iload 4, 2) := by decide +kernel
theorem dX2_countCrossings_45 : decode cX2_countCrossings 45 = .ok (.aload_n 1, 1) := by decide +kernel
theorem dX2_countCrossings_46 : decode cX2_countCrossings 46 = .ok (.iload 5, 2) := by decide +kernel
theorem dX2_countCrossings_48 : decode cX2_countCrossings 48 = .ok (.invokevirtual 219, 3) := by decide +kernel
theorem dX2_countCrossings_51 : decode cX2_countCrossings 51 = .ok (.ifCond .eq 6, 3) := by decide +kernel
theorem dX2_countCrossings_54 : decode cX2_countCrossings 54 = .ok (.iinc 3 1, 3) := by decide +kernel
theorem dX2_countCrossings_57 : decode cX2_countCrossings 57 = .ok (.iinc 5 1, 3) := by decide +kernel
theorem dX2_countCrossings_60 : decode cX2_countCrossings 60 = .ok (.goto (-43), 3) := by decide +kernel
theorem dX2_countCrossings_63 : decode cX2_countCrossings 63 = .ok (.iinc 4 1, 3) := by decide +kernel
theorem dX2_countCrossings_66 : decode cX2_countCrossings 66 = .ok (.goto (-61), 3) := by decide +kernel
theorem dX2_countCrossings_69 : decode cX2_countCrossings 69 = .ok (.iload_n 3, 1) := by decide +kernel
theorem dX2_countCrossings_70 : decode cX2_countCrossings 70 = .ok (.ireturn, 1) := by decide +kernel
set_option maxRecDepth 20000 in
theorem ggX2_crossWell_X2_pairOf : GoodIn wsX2_crossWell wsX2_pairOf := goodIn_r _ [6, 7, 8, 9, 10, 11, 12, 13] (by decide +kernel) (by decide +kernel)
set_option maxRecDepth 20000 in
theorem gX2_crossWell_X2_pairOf : GoodIn wsX2_crossWell (va_wsS RX2 96 yX2_pairOf wsX2_pairOf) := goodIn_app (goodIn_of _ (by decide +kernel)) ggX2_crossWell_X2_pairOf
theorem dX2_crossWell_0 : decode cX2_crossWell 0 = .ok (.iload_n 1, 1) := by decide +kernel
theorem dX2_crossWell_1 : decode cX2_crossWell 1 = .ok (.iload_n 2, 1) := by decide +kernel
theorem dX2_crossWell_2 : decode cX2_crossWell 2 = .ok (.invokestatic 96, 3) := by decide +kernel
theorem dX2_crossWell_5 : decode cX2_crossWell 5 = .ok (.istore_n 3, 1) := by decide +kernel
theorem dX2_crossWell_6 : decode cX2_crossWell 6 = .ok (.aload_n 0, 1) := by decide +kernel
theorem dX2_crossWell_7 : decode cX2_crossWell 7 = .ok (.getfield 24, 3) := by decide +kernel
theorem dX2_crossWell_10 : decode cX2_crossWell 10 = .ok (.iload_n 3, 1) := by decide +kernel
theorem dX2_crossWell_11 : decode cX2_crossWell 11 = .ok (.iaload, 1) := by decide +kernel
theorem dX2_crossWell_12 : decode cX2_crossWell 12 = .ok (.ifCond .le 22, 3) := by decide +kernel
theorem dX2_crossWell_15 : decode cX2_crossWell 15 = .ok (.aload_n 0, 1) := by decide +kernel
theorem dX2_crossWell_16 : decode cX2_crossWell 16 = .ok (.getfield 28, 3) := by decide +kernel
theorem dX2_crossWell_19 : decode cX2_crossWell 19 = .ok (.iload_n 3, 1) := by decide +kernel
theorem dX2_crossWell_20 : decode cX2_crossWell 20 = .ok (.iaload, 1) := by decide +kernel
theorem dX2_crossWell_21 : decode cX2_crossWell 21 = .ok (.aload_n 0, 1) := by decide +kernel
theorem dX2_crossWell_22 : decode cX2_crossWell 22 = .ok (.getfield 24, 3) := by decide +kernel
theorem dX2_crossWell_25 : decode cX2_crossWell 25 = .ok (.iload_n 3, 1) := by decide +kernel
theorem dX2_crossWell_26 : decode cX2_crossWell 26 = .ok (.iaload, 1) := by decide +kernel
theorem dX2_crossWell_27 : decode cX2_crossWell 27 = .ok (.if_icmp .ne 7, 3) := by decide +kernel
theorem dX2_crossWell_30 : decode cX2_crossWell 30 = .ok (.iconst 1, 1) := by decide +kernel
theorem dX2_crossWell_31 : decode cX2_crossWell 31 = .ok (.goto 4, 3) := by decide +kernel
theorem dX2_crossWell_34 : decode cX2_crossWell 34 = .ok (.iconst 0, 1) := by decide +kernel
theorem dX2_crossWell_35 : decode cX2_crossWell 35 = .ok (.ireturn, 1) := by decide +kernel
set_option maxRecDepth 20000 in
theorem ggX2_dropIfNotWell_X2_pairOf : GoodIn wsX2_dropIfNotWell wsX2_pairOf := goodIn_r _ [5, 6, 7, 8, 9, 10, 11, 12] (by decide +kernel) (by decide +kernel)
set_option maxRecDepth 20000 in
theorem gX2_dropIfNotWell_X2_pairOf : GoodIn wsX2_dropIfNotWell (va_wsS RX2 96 yX2_pairOf wsX2_pairOf) := goodIn_app (goodIn_of _ (by decide +kernel)) ggX2_dropIfNotWell_X2_pairOf
set_option maxRecDepth 20000 in
theorem ggX2_dropIfNotWell_X2_crossWell : GoodIn wsX2_dropIfNotWell wsX2_crossWell := goodIn_r _ [16, 17, 18, 2, 3, 4, 5, 6, 7, 8, 9, 10, 11, 12, 19, 20, 21, 22, 23, 24, 25, 26, 27] (by decide +kernel) (by decide +kernel)
set_option maxRecDepth 20000 in
theorem gX2_dropIfNotWell_X2_crossWell : GoodIn wsX2_dropIfNotWell (wsV RX2 103 RX2 yX2_crossWell wsX2_crossWell) := goodIn_app (goodIn_of _ (by decide +kernel)) ggX2_dropIfNotWell_X2_crossWell
theorem dX2_dropIfNotWell_0 : decode cX2_dropIfNotWell 0 = .ok (.iload_n 1, 1) := by decide +kernel
theorem dX2_dropIfNotWell_1 : decode cX2_dropIfNotWell 1 = .ok (.iload_n 2, 1) := by decide +kernel
theorem dX2_dropIfNotWell_2 : decode cX2_dropIfNotWell 2 = .ok (.invokestatic 96, 3) := by decide +kernel
theorem dX2_dropIfNotWell_5 : decode cX2_dropIfNotWell 5 = .ok (.istore_n 3, 1) := by decide +kernel
theorem dX2_dropIfNotWell_6 : decode cX2_dropIfNotWell 6 = .ok (.aload_n 0, 1) := by decide +kernel
theorem dX2_dropIfNotWell_7 : decode cX2_dropIfNotWell 7 = .ok (.getfield 31, 3) := by decide +kernel
theorem dX2_dropIfNotWell_10 : decode cX2_dropIfNotWell 10 = .ok (.iload_n 3, 1) := by decide +kernel
theorem dX2_dropIfNotWell_11 : decode cX2_dropIfNotWell 11 = .ok (.baload, 1) := by decide +kernel
theorem dX2_dropIfNotWell_12 : decode cX2_dropIfNotWell 12 = .ok (.ifCond .eq 12, 3) := by decide +kernel
theorem dX2_dropIfNotWell_15 : decode cX2_dropIfNotWell 15 = .ok (.aload_n 0, 1) := by decide +kernel
theorem dX2_dropIfNotWell_16 : decode cX2_dropIfNotWell 16 = .ok (.iload_n 1, 1) := by decide +kernel
theorem dX2_dropIfNotWell_17 : decode cX2_dropIfNotWell 17 = .ok (.iload_n 2, 1) := by decide +kernel
theorem dX2_dropIfNotWell_18 : decode cX2_dropIfNotWell 18 = .ok (.invokevirtual 103, 3) := by decide +kernel
theorem dX2_dropIfNotWell_21 : decode cX2_dropIfNotWell 21 = .ok (.ifCond .eq 5, 3) := by decide +kernel
theorem dX2_dropIfNotWell_24 : decode cX2_dropIfNotWell 24 = .ok (.iconst 0, 1) := by decide +kernel
theorem dX2_dropIfNotWell_25 : decode cX2_dropIfNotWell 25 = .ok (.ireturn, 1) := by decide +kernel
theorem dX2_dropIfNotWell_26 : decode cX2_dropIfNotWell 26 = .ok (.aload_n 0, 1) := by decide +kernel
theorem dX2_dropIfNotWell_27 : decode cX2_dropIfNotWell 27 = .ok (.getfield 31, 3) := by decide +kernel
theorem dX2_dropIfNotWell_30 : decode cX2_dropIfNotWell 30 = .ok (.iload_n 3, 1) := by decide +kernel
theorem dX2_dropIfNotWell_31 : decode cX2_dropIfNotWell 31 = .ok (.iconst 0, 1) := by decide +kernel
theorem dX2_dropIfNotWell_32 : decode cX2_dropIfNotWell 32 = .ok (.bastore, 1) := by decide +kernel
theorem dX2_dropIfNotWell_33 : decode cX2_dropIfNotWell 33 = .ok (.iconst 1, 1) := by decide +kernel
theorem dX2_dropIfNotWell_34 : decode cX2_dropIfNotWell 34 = .ok (.ireturn, 1) := by decide +kernel
set_option maxRecDepth 20000 in
theorem ggX2_countBarePairs_X2_pairOf : GoodIn wsX2_countBarePairs wsX2_pairOf := goodIn_r _ [7, 8, 9, 10, 11, 12, 13, 14] (by decide +kernel) (by decide +kernel)
set_option maxRecDepth 20000 in
theorem gX2_countBarePairs_X2_pairOf : GoodIn wsX2_countBarePairs (va_wsS RX2 96 yX2_pairOf wsX2_pairOf) := goodIn_app (goodIn_of _ (by decide +kernel)) ggX2_countBarePairs_X2_pairOf
theorem dX2_countBarePairs_0 : decode cX2_countBarePairs 0 = .ok (.iconst 0, 1) := by decide +kernel
theorem dX2_countBarePairs_1 : decode cX2_countBarePairs 1 = .ok (.istore_n 1, 1) := by decide +kernel
theorem dX2_countBarePairs_2 : decode cX2_countBarePairs 2 = .ok (.iconst 0, 1) := by decide +kernel
theorem dX2_countBarePairs_3 : decode cX2_countBarePairs 3 = .ok (.istore_n 2, 1) := by decide +kernel
theorem dX2_countBarePairs_4 : decode cX2_countBarePairs 4 = .ok (.iload_n 2, 1) := by decide +kernel
theorem dX2_countBarePairs_5 : decode cX2_countBarePairs 5 = .ok (.aload_n 0, 1) := by decide +kernel
theorem dX2_countBarePairs_6 : decode cX2_countBarePairs 6 = .ok (.getfield 20, 3) := by decide +kernel
theorem dX2_countBarePairs_9 : decode cX2_countBarePairs 9 = .ok (.if_icmp .ge 57, 3) := by decide +kernel
theorem dX2_countBarePairs_12 : decode cX2_countBarePairs 12 = .ok (.iload_n 2, 1) := by decide +kernel
theorem dX2_countBarePairs_13 : decode cX2_countBarePairs 13 = .ok (.iconst 1, 1) := by decide +kernel
theorem dX2_countBarePairs_14 : decode cX2_countBarePairs 14 = .ok (.iadd, 1) := by decide +kernel
theorem dX2_countBarePairs_15 : decode cX2_countBarePairs 15 = .ok (.istore_n 3, 1) := by decide +kernel
theorem dX2_countBarePairs_16 : decode cX2_countBarePairs 16 = .ok (.iload_n 3, 1) := by decide +kernel
theorem dX2_countBarePairs_17 : decode cX2_countBarePairs 17 = .ok (.aload_n 0, 1) := by decide +kernel
theorem dX2_countBarePairs_18 : decode cX2_countBarePairs 18 = .ok (.getfield 20, 3) := by decide +kernel
theorem dX2_countBarePairs_21 : decode cX2_countBarePairs 21 = .ok (.if_icmp .ge 39, 3) := by decide +kernel
theorem dX2_countBarePairs_24 : decode cX2_countBarePairs 24 = .ok (.iload_n 2, 1) := by decide +kernel
theorem dX2_countBarePairs_25 : decode cX2_countBarePairs 25 = .ok (.iload_n 3, 1) := by decide +kernel
theorem dX2_countBarePairs_26 : decode cX2_countBarePairs 26 = .ok (.invokestatic 96, 3) := by decide +kernel
theorem dX2_countBarePairs_29 : decode cX2_countBarePairs 29 = .ok (.istore 4, 2) := by decide +kernel
theorem dX2_countBarePairs_31 : decode cX2_countBarePairs 31 = .ok (.aload_n 0, 1) := by decide +kernel
theorem dX2_countBarePairs_32 : decode cX2_countBarePairs 32 = .ok (.getfield 24, 3) := by decide +kernel
theorem dX2_countBarePairs_35 : decode cX2_countBarePairs 35 = .ok (.iload 4, 2) := by decide +kernel
theorem dX2_countBarePairs_37 : decode cX2_countBarePairs 37 = .ok (.iaload, 1) := by decide +kernel
theorem dX2_countBarePairs_38 : decode cX2_countBarePairs 38 = .ok (.ifCond .le 16, 3) := by decide +kernel
theorem dX2_countBarePairs_41 : decode cX2_countBarePairs 41 = .ok (.aload_n 0, 1) := by decide +kernel
theorem dX2_countBarePairs_42 : decode cX2_countBarePairs 42 = .ok (.getfield 31, 3) := by decide +kernel
theorem dX2_countBarePairs_45 : decode cX2_countBarePairs 45 = .ok (.iload 4, 2) := by decide +kernel
theorem dX2_countBarePairs_47 : decode cX2_countBarePairs 47 = .ok (.baload, 1) := by decide +kernel
theorem dX2_countBarePairs_48 : decode cX2_countBarePairs 48 = .ok (.ifCond .ne 6, 3) := by decide +kernel
theorem dX2_countBarePairs_51 : decode cX2_countBarePairs 51 = .ok (.iinc 1 1, 3) := by decide +kernel
theorem dX2_countBarePairs_54 : decode cX2_countBarePairs 54 = .ok (.iinc 3 1, 3) := by decide +kernel
theorem dX2_countBarePairs_57 : decode cX2_countBarePairs 57 = .ok (.goto (-41), 3) := by decide +kernel
theorem dX2_countBarePairs_60 : decode cX2_countBarePairs 60 = .ok (.iinc 2 1, 3) := by decide +kernel
theorem dX2_countBarePairs_63 : decode cX2_countBarePairs 63 = .ok (.goto (-59), 3) := by decide +kernel
theorem dX2_countBarePairs_66 : decode cX2_countBarePairs 66 = .ok (.iload_n 1, 1) := by decide +kernel
theorem dX2_countBarePairs_67 : decode cX2_countBarePairs 67 = .ok (.ireturn, 1) := by decide +kernel
theorem dX2_bitOf_0 : decode cX2_bitOf 0 = .ok (.lconst 1, 1) := by decide +kernel
theorem dX2_bitOf_1 : decode cX2_bitOf 1 = .ok (.bipush 8, 2) := by decide +kernel
theorem dX2_bitOf_3 : decode cX2_bitOf 3 = .ok (.iload_n 0, 1) := by decide +kernel
theorem dX2_bitOf_4 : decode cX2_bitOf 4 = .ok (.imul, 1) := by decide +kernel
theorem dX2_bitOf_5 : decode cX2_bitOf 5 = .ok (.iload_n 1, 1) := by decide +kernel
theorem dX2_bitOf_6 : decode cX2_bitOf 6 = .ok (.iadd, 1) := by decide +kernel
theorem dX2_bitOf_7 : decode cX2_bitOf 7 = .ok (.lshl, 1) := by decide +kernel
theorem dX2_bitOf_8 : decode cX2_bitOf 8 = .ok (.lreturn, 1) := by decide +kernel
set_option maxRecDepth 20000 in
theorem ggX2_isIn_X2_bitOf : GoodIn wsX2_isIn wsX2_bitOf := goodIn_r _ [4] (by decide +kernel) (by decide +kernel)
set_option maxRecDepth 20000 in
theorem gX2_isIn_X2_bitOf : GoodIn wsX2_isIn (va_wsS RX2 222 yX2_bitOf wsX2_bitOf) := goodIn_app (goodIn_of _ (by decide +kernel)) ggX2_isIn_X2_bitOf
theorem dX2_isIn_0 : decode cX2_isIn 0 = .ok (.lload_n 0, 1) := by decide +kernel
theorem dX2_isIn_1 : decode cX2_isIn 1 = .ok (.iload_n 2, 1) := by decide +kernel
theorem dX2_isIn_2 : decode cX2_isIn 2 = .ok (.iload_n 3, 1) := by decide +kernel
theorem dX2_isIn_3 : decode cX2_isIn 3 = .ok (.invokestatic 222, 3) := by decide +kernel
theorem dX2_isIn_6 : decode cX2_isIn 6 = .ok (.land, 1) := by decide +kernel
theorem dX2_isIn_7 : decode cX2_isIn 7 = .ok (.lconst 0, 1) := by decide +kernel
theorem dX2_isIn_8 : decode cX2_isIn 8 = .ok (.lcmp, 1) := by decide +kernel
theorem dX2_isIn_9 : decode cX2_isIn 9 = .ok (.ifCond .eq 7, 3) := by decide +kernel
theorem dX2_isIn_12 : decode cX2_isIn 12 = .ok (.iconst 1, 1) := by decide +kernel
theorem dX2_isIn_13 : decode cX2_isIn 13 = .ok (.goto 4, 3) := by decide +kernel
theorem dX2_isIn_16 : decode cX2_isIn 16 = .ok (.iconst 0, 1) := by decide +kernel
theorem dX2_isIn_17 : decode cX2_isIn 17 = .ok (.ireturn, 1) := by decide +kernel
set_option maxRecDepth 20000 in
theorem ggX2_liftedWith_X2_bitOf : GoodIn wsX2_liftedWith wsX2_bitOf := goodIn_r _ [5] (by decide +kernel) (by decide +kernel)
set_option maxRecDepth 20000 in
theorem gX2_liftedWith_X2_bitOf : GoodIn wsX2_liftedWith (va_wsS RX2 222 yX2_bitOf wsX2_bitOf) := goodIn_app (goodIn_of _ (by decide +kernel)) ggX2_liftedWith_X2_bitOf
set_option maxRecDepth 20000 in
theorem ggX2_liftedWith_X2_lyingOn : GoodIn wsX2_liftedWith wsX2_lyingOn := goodIn_r _ [9, 10, 11, 12, 13, 14, 15, 16, 17, 18, 4, 19, 20, 21, 22, 2, 3, 5, 23, 24, 25, 26, 27, 28, 29, 30, 31, 32, 33, 34, 35, 36, 37, 38, 39, 40, 41, 42, 43, 44, 45, 46, 47, 48, 49, 50, 51, 52, 53, 54, 55, 56, 57, 58, 59, 60, 61, 62, 63, 64, 65, 66, 67, 68, 69, 70, 71, 72, 73, 74, 75, 76, 77, 78, 79, 80, 81, 82] (by decide +kernel) (by decide +kernel)
set_option maxRecDepth 20000 in
theorem gX2_liftedWith_X2_lyingOn : GoodIn wsX2_liftedWith (wsV RX2 225 RX2 yX2_lyingOn wsX2_lyingOn) := goodIn_app (goodIn_of _ (by decide +kernel)) ggX2_liftedWith_X2_lyingOn
theorem dX2_liftedWith_0 : decode cX2_liftedWith 0 = .ok (.iload_n 1, 1) := by decide +kernel
theorem dX2_liftedWith_1 : decode cX2_liftedWith 1 = .ok (.iload_n 2, 1) := by decide +kernel
theorem dX2_liftedWith_2 : decode cX2_liftedWith 2 = .ok (.invokestatic 222, 3) := by decide +kernel
theorem dX2_liftedWith_5 : decode cX2_liftedWith 5 = .ok (.lstore_n 3, 1) := by decide +kernel
theorem dX2_liftedWith_6 : decode cX2_liftedWith 6 = .ok (.iload_n 1, 1) := by decide +kernel
theorem dX2_liftedWith_7 : decode cX2_liftedWith 7 = .ok (.iconst 1, 1) := by decide +kernel
theorem dX2_liftedWith_8 : decode cX2_liftedWith 8 = .ok (.iadd, 1) := by decide +kernel
theorem dX2_liftedWith_9 : decode cX2_liftedWith 9 = .ok (.istore 5, 2) := by decide +kernel
theorem dX2_liftedWith_11 : decode cX2_liftedWith 11 = .ok (.iload 5, 2) := by decide +kernel
theorem dX2_liftedWith_13 : decode cX2_liftedWith 13 = .ok (.aload_n 0, 1) := by decide +kernel
theorem dX2_liftedWith_14 : decode cX2_liftedWith 14 = .ok (.getfield 20, 3) := by decide +kernel
theorem dX2_liftedWith_17 : decode cX2_liftedWith 17 = .ok (.if_icmp .ge 37, 3) := by decide +kernel
theorem dX2_liftedWith_20 : decode cX2_liftedWith 20 = .ok (.iload_n 1, 1) := by decide +kernel
theorem dX2_liftedWith_21 : decode cX2_liftedWith 21 = .ok (.istore 6, 2) := by decide +kernel
theorem dX2_liftedWith_23 : decode cX2_liftedWith 23 = .ok (.iload 6, 2) := by decide +kernel
theorem dX2_liftedWith_25 : decode cX2_liftedWith 25 = .ok (.iload 5, 2) := by decide +kernel
theorem dX2_liftedWith_27 : decode cX2_liftedWith 27 = .ok (.if_icmp .ge 21, 3) := by decide +kernel
theorem dX2_liftedWith_30 : decode cX2_liftedWith 30 = .ok (.lload_n 3, 1) := by decide +kernel
theorem dX2_liftedWith_31 : decode cX2_liftedWith 31 = .ok (.aload_n 0, 1) := by decide +kernel
theorem dX2_liftedWith_32 : decode cX2_liftedWith 32 = .ok (.lload_n 3, 1) := by decide +kernel
theorem dX2_liftedWith_33 : decode cX2_liftedWith 33 = .ok (.iload 6, 2) := by decide +kernel
theorem dX2_liftedWith_35 : decode cX2_liftedWith 35 = .ok (.iload 5, 2) := by decide +kernel
theorem dX2_liftedWith_37 : decode cX2_liftedWith 37 = .ok (.invokevirtual 225, 3) := by decide +kernel
theorem dX2_liftedWith_40 : decode cX2_liftedWith 40 = .ok (.lor, 1) := by decide +kernel
theorem dX2_liftedWith_41 : decode cX2_liftedWith 41 = .ok (.lstore_n 3, 1) := by decide +kernel
theorem dX2_liftedWith_42 : decode cX2_liftedWith 42 = .ok (.iinc 6 1, 3) := by decide +kernel
theorem dX2_liftedWith_45 : decode cX2_liftedWith 45 = .ok (.goto (-22), 3) := by decide +kernel
theorem dX2_liftedWith_48 : decode cX2_liftedWith 48 = .ok (.iinc 5 1, 3) := by decide +kernel
theorem dX2_liftedWith_51 : decode cX2_liftedWith 51 = .ok (.goto (-40), 3) := by decide +kernel
theorem dX2_liftedWith_54 : decode cX2_liftedWith 54 = .ok (.lload_n 3, 1) := by decide +kernel
theorem dX2_liftedWith_55 : decode cX2_liftedWith 55 = .ok (.lreturn, 1) := by decide +kernel
set_option maxRecDepth 20000 in
theorem ggX2_lyingOn_X1_pieces : GoodIn wsX2_lyingOn wsX1_pieces := goodIn_r _ [5, 6, 75, 76, 77] (by decide +kernel) (by decide +kernel)
set_option maxRecDepth 20000 in
theorem gX2_lyingOn_X1_pieces_n200 : GoodIn wsX2_lyingOn (wsX1_pieces) := ggX2_lyingOn_X1_pieces
set_option maxRecDepth 20000 in
theorem ggX2_lyingOn_X2_liesOnLifted : GoodIn wsX2_lyingOn wsX2_liesOnLifted := goodIn_r _ [11, 1, 2, 3, 4, 5, 6, 12, 13, 10, 14, 15, 16, 17, 18, 19, 20, 21, 22, 23, 24, 25, 26, 27, 28, 29, 30, 31, 32, 33, 34, 35, 36, 37, 38, 39, 40, 41, 42, 43, 44, 45, 46, 47, 48, 49, 50, 51, 52, 53, 54, 55, 56, 57, 58, 59, 60, 61, 62, 63, 64, 65, 66, 67, 68, 69, 70, 71, 72, 73, 74, 75, 76, 77] (by decide +kernel) (by decide +kernel)
set_option maxRecDepth 20000 in
theorem gX2_lyingOn_X2_liesOnLifted : GoodIn wsX2_lyingOn (wsV RX2 229 RX2 yX2_liesOnLifted wsX2_liesOnLifted) := goodIn_app (goodIn_of _ (by decide +kernel)) ggX2_lyingOn_X2_liesOnLifted
set_option maxRecDepth 20000 in
theorem ggX2_lyingOn_X2_bitOf : GoodIn wsX2_lyingOn wsX2_bitOf := goodIn_r _ [17] (by decide +kernel) (by decide +kernel)
set_option maxRecDepth 20000 in
theorem gX2_lyingOn_X2_bitOf : GoodIn wsX2_lyingOn (va_wsS RX2 222 yX2_bitOf wsX2_bitOf) := goodIn_app (goodIn_of _ (by decide +kernel)) ggX2_lyingOn_X2_bitOf
theorem dX2_lyingOn_0 : decode cX2_lyingOn 0 = .ok (.lconst 0, 1) := by decide +kernel
theorem dX2_lyingOn_1 : decode cX2_lyingOn 1 = .ok (.lstore 5, 2) := by decide +kernel
theorem dX2_lyingOn_3 : decode cX2_lyingOn 3 = .ok (.iconst 0, 1) := by decide +kernel
theorem dX2_lyingOn_4 : decode cX2_lyingOn 4 = .ok (.istore 7, 2) := by decide +kernel
theorem dX2_lyingOn_6 : decode cX2_lyingOn 6 = .ok (.iload 7, 2) := by decide +kernel
theorem dX2_lyingOn_8 : decode cX2_lyingOn 8 = .ok (.aload_n 0, 1) := by decide +kernel
theorem dX2_lyingOn_9 : decode cX2_lyingOn 9 = .ok (.getfield 16, 3) := by decide +kernel
theorem dX2_lyingOn_12 : decode cX2_lyingOn 12 = .ok (.iload 4, 2) := by decide +kernel
theorem dX2_lyingOn_14 : decode cX2_lyingOn 14 = .ok (.aaload, 1) := by decide +kernel
theorem dX2_lyingOn_15 : decode cX2_lyingOn 15 = .ok (.invokevirtual 200, 3) := by decide +kernel
theorem dX2_lyingOn_18 : decode cX2_lyingOn 18 = .ok (.if_icmp .ge 34, 3) := by decide +kernel
theorem dX2_lyingOn_21 : decode cX2_lyingOn 21 = .ok (.aload_n 0, 1) := by decide +kernel
theorem dX2_lyingOn_22 : decode cX2_lyingOn 22 = .ok (.lload_n 1, 1) := by decide +kernel
theorem dX2_lyingOn_23 : decode cX2_lyingOn 23 = .ok (.iload_n 3, 1) := by decide +kernel
theorem dX2_lyingOn_24 : decode cX2_lyingOn 24 = .ok (.iload 4, 2) := by decide +kernel
theorem dX2_lyingOn_26 : decode cX2_lyingOn 26 = .ok (.iload 7, 2) := by decide +kernel
theorem dX2_lyingOn_28 : decode cX2_lyingOn 28 = .ok (.invokevirtual 229, 3) := by decide +kernel
theorem dX2_lyingOn_31 : decode cX2_lyingOn 31 = .ok (.ifCond .eq 15, 3) := by decide +kernel
theorem dX2_lyingOn_34 : decode cX2_lyingOn 34 = .ok (.lload 5, 2) := by decide +kernel
theorem dX2_lyingOn_36 : decode cX2_lyingOn 36 = .ok (.iload 4, 2) := by decide +kernel
theorem dX2_lyingOn_38 : decode cX2_lyingOn 38 = .ok (.iload 7, 2) := by decide +kernel
theorem dX2_lyingOn_40 : decode cX2_lyingOn 40 = .ok (.invokestatic 222, 3) := by decide +kernel
theorem dX2_lyingOn_43 : decode cX2_lyingOn 43 = .ok (.lor, 1) := by decide +kernel
theorem dX2_lyingOn_44 : decode cX2_lyingOn 44 = .ok (.lstore 5, 2) := by decide +kernel
theorem dX2_lyingOn_46 : decode cX2_lyingOn 46 = .ok (.iinc 7 1, 3) := by decide +kernel
theorem dX2_lyingOn_49 : decode cX2_lyingOn 49 = .ok (.goto (-43), 3) := by decide +kernel
theorem dX2_lyingOn_52 : decode cX2_lyingOn 52 = .ok (.lload 5, 2) := by decide +kernel
theorem dX2_lyingOn_54 : decode cX2_lyingOn 54 = .ok (.lreturn, 1) := by decide +kernel
set_option maxRecDepth 20000 in
theorem ggX2_liesOnLifted_X1_pieces : GoodIn wsX2_liesOnLifted wsX1_pieces := goodIn_r _ [5, 6, 71, 72, 73] (by decide +kernel) (by decide +kernel)
set_option maxRecDepth 20000 in
theorem gX2_liesOnLifted_X1_pieces_n200 : GoodIn wsX2_liesOnLifted (wsX1_pieces) := ggX2_liesOnLifted_X1_pieces
set_option maxRecDepth 20000 in
theorem ggX2_liesOnLifted_X2_isIn : GoodIn wsX2_liesOnLifted wsX2_isIn := goodIn_r _ [10, 11, 12, 9, 13] (by decide +kernel) (by decide +kernel)
set_option maxRecDepth 20000 in
theorem gX2_liesOnLifted_X2_isIn : GoodIn wsX2_liesOnLifted (va_wsS RX2 233 yX2_isIn wsX2_isIn) := goodIn_app (goodIn_of _ (by decide +kernel)) ggX2_liesOnLifted_X2_isIn
set_option maxRecDepth 20000 in
theorem ggX2_liesOnLifted_X1_pieceCrosses : GoodIn wsX2_liesOnLifted wsX1_pieceCrosses := goodIn_r _ [16, 17, 18, 19, 3, 20, 21, 22, 23, 24, 25, 26, 27, 28, 29, 30, 31, 32, 33, 34, 35, 36, 37, 38, 39, 40, 41, 42, 43, 44, 45, 46, 47, 48, 49, 50, 51, 52, 53, 54, 55, 56, 57, 58, 59, 60, 61, 71, 72, 73] (by decide +kernel) (by decide +kernel)
set_option maxRecDepth 20000 in
theorem gX2_liesOnLifted_X1_pieceCrosses_n215 : GoodIn wsX2_liesOnLifted (wsX1_pieceCrosses) := ggX2_liesOnLifted_X1_pieceCrosses
theorem dX2_liesOnLifted_0 : decode cX2_liesOnLifted 0 = .ok (.iconst 0, 1) := by decide +kernel
theorem dX2_liesOnLifted_1 : decode cX2_liesOnLifted 1 = .ok (.istore 6, 2) := by decide +kernel
theorem dX2_liesOnLifted_3 : decode cX2_liesOnLifted 3 = .ok (.iload 6, 2) := by decide +kernel
theorem dX2_liesOnLifted_5 : decode cX2_liesOnLifted 5 = .ok (.aload_n 0, 1) := by decide +kernel
theorem dX2_liesOnLifted_6 : decode cX2_liesOnLifted 6 = .ok (.getfield 16, 3) := by decide +kernel
theorem dX2_liesOnLifted_9 : decode cX2_liesOnLifted 9 = .ok (.iload_n 3, 1) := by decide +kernel
theorem dX2_liesOnLifted_10 : decode cX2_liesOnLifted 10 = .ok (.aaload, 1) := by decide +kernel
theorem dX2_liesOnLifted_11 : decode cX2_liesOnLifted 11 = .ok (.invokevirtual 200, 3) := by decide +kernel
theorem dX2_liesOnLifted_14 : decode cX2_liesOnLifted 14 = .ok (.if_icmp .ge 44, 3) := by decide +kernel
theorem dX2_liesOnLifted_17 : decode cX2_liesOnLifted 17 = .ok (.lload_n 1, 1) := by decide +kernel
theorem dX2_liesOnLifted_18 : decode cX2_liesOnLifted 18 = .ok (.iload_n 3, 1) := by decide +kernel
theorem dX2_liesOnLifted_19 : decode cX2_liesOnLifted 19 = .ok (.iload 6, 2) := by decide +kernel
theorem dX2_liesOnLifted_21 : decode cX2_liesOnLifted 21 = .ok (.invokestatic 233, 3) := by decide +kernel
theorem dX2_liesOnLifted_24 : decode cX2_liesOnLifted 24 = .ok (.ifCond .eq 28, 3) := by decide +kernel
theorem dX2_liesOnLifted_27 : decode cX2_liesOnLifted 27 = .ok (.aload_n 0, 1) := by decide +kernel
theorem dX2_liesOnLifted_28 : decode cX2_liesOnLifted 28 = .ok (.getfield 16, 3) := by decide +kernel
theorem dX2_liesOnLifted_31 : decode cX2_liesOnLifted 31 = .ok (.iload_n 3, 1) := by decide +kernel
theorem dX2_liesOnLifted_32 : decode cX2_liesOnLifted 32 = .ok (.aaload, 1) := by decide +kernel
theorem dX2_liesOnLifted_33 : decode cX2_liesOnLifted 33 = .ok (.iload 6, 2) := by decide +kernel
theorem dX2_liesOnLifted_35 : decode cX2_liesOnLifted 35 = .ok (.aload_n 0, 1) := by decide +kernel
theorem dX2_liesOnLifted_36 : decode cX2_liesOnLifted 36 = .ok (.getfield 16, 3) := by decide +kernel
theorem dX2_liesOnLifted_39 : decode cX2_liesOnLifted 39 = .ok (.iload 4, 2) := by decide +kernel
theorem dX2_liesOnLifted_41 : decode cX2_liesOnLifted 41 = .ok (.aaload, 1) := by decide +kernel
theorem dX2_liesOnLifted_42 : decode cX2_liesOnLifted 42 = .ok (.iload 5, 2) := by decide +kernel
theorem dX2_liesOnLifted_44 : decode cX2_liesOnLifted 44 = .ok (.invokevirtual 215, 3) := by decide +kernel
theorem dX2_liesOnLifted_47 : decode cX2_liesOnLifted 47 = .ok (.ifCond .eq 5, 3) := by decide +kernel
theorem dX2_liesOnLifted_50 : decode cX2_liesOnLifted 50 = .ok (.iconst 1, 1) := by decide +kernel
theorem dX2_liesOnLifted_51 : decode cX2_liesOnLifted 51 = .ok (.ireturn, 1) := by decide +kernel
theorem dX2_liesOnLifted_52 : decode cX2_liesOnLifted 52 = .ok (.iinc 6 1, 3) := by decide +kernel
theorem dX2_liesOnLifted_55 : decode cX2_liesOnLifted 55 = .ok (.goto (-52), 3) := by decide +kernel
theorem dX2_liesOnLifted_58 : decode cX2_liesOnLifted 58 = .ok (.iconst 0, 1) := by decide +kernel
theorem dX2_liesOnLifted_59 : decode cX2_liesOnLifted 59 = .ok (.ireturn, 1) := by decide +kernel
set_option maxRecDepth 20000 in
theorem ggX2_isPossible_X2_pairOf : GoodIn wsX2_isPossible wsX2_pairOf := goodIn_r _ [6, 7, 8, 9, 10, 11, 12, 13] (by decide +kernel) (by decide +kernel)
set_option maxRecDepth 20000 in
theorem gX2_isPossible_X2_pairOf : GoodIn wsX2_isPossible (va_wsS RX2 96 yX2_pairOf wsX2_pairOf) := goodIn_app (goodIn_of _ (by decide +kernel)) ggX2_isPossible_X2_pairOf
set_option maxRecDepth 20000 in
theorem ggX2_isPossible_X2_lyingOn : GoodIn wsX2_isPossible wsX2_lyingOn := goodIn_r _ [17, 18, 19, 20, 21, 22, 23, 24, 25, 26, 5, 27, 28, 29, 30, 31, 32, 33, 34, 35, 36, 37, 38, 39, 40, 41, 42, 8, 9, 10, 43, 44, 45, 46, 47, 48, 49, 50, 51, 52, 12, 13, 53, 54, 55, 56, 57, 58, 59, 60, 61, 62, 63, 64, 65, 66, 67, 68, 69, 70, 71, 72, 73, 74, 75, 76, 77, 78, 79, 80, 81, 82, 83, 84, 85, 86, 87, 88] (by decide +kernel) (by decide +kernel)
set_option maxRecDepth 20000 in
theorem gX2_isPossible_X2_lyingOn : GoodIn wsX2_isPossible (wsV RX2 225 RX2 yX2_lyingOn wsX2_lyingOn) := goodIn_app (goodIn_of _ (by decide +kernel)) ggX2_isPossible_X2_lyingOn
theorem dX2_isPossible_0 : decode cX2_isPossible 0 = .ok (.iconst 0, 1) := by decide +kernel
theorem dX2_isPossible_1 : decode cX2_isPossible 1 = .ok (.istore_n 3, 1) := by decide +kernel
theorem dX2_isPossible_2 : decode cX2_isPossible 2 = .ok (.iload_n 3, 1) := by decide +kernel
theorem dX2_isPossible_3 : decode cX2_isPossible 3 = .ok (.aload_n 0, 1) := by decide +kernel
theorem dX2_isPossible_4 : decode cX2_isPossible 4 = .ok (.getfield 20, 3) := by decide +kernel
theorem dX2_isPossible_7 : decode cX2_isPossible 7 = .ok (.if_icmp .ge 53, 3) := by decide +kernel
theorem dX2_isPossible_10 : decode cX2_isPossible 10 = .ok (.iconst 0, 1) := by decide +kernel
theorem dX2_isPossible_11 : decode cX2_isPossible 11 = .ok (.istore 4, 2) := by decide +kernel
theorem dX2_isPossible_13 : decode cX2_isPossible 13 = .ok (.iload 4, 2) := by decide +kernel
theorem dX2_isPossible_15 : decode cX2_isPossible 15 = .ok (.iload_n 3, 1) := by decide +kernel
theorem dX2_isPossible_16 : decode cX2_isPossible 16 = .ok (.if_icmp .ge 38, 3) := by decide +kernel
theorem dX2_isPossible_19 : decode cX2_isPossible 19 = .ok (.aload_n 0, 1) := by decide +kernel
theorem dX2_isPossible_20 : decode cX2_isPossible 20 = .ok (.getfield 31, 3) := by decide +kernel
theorem dX2_isPossible_23 : decode cX2_isPossible 23 = .ok (.iload 4, 2) := by decide +kernel
theorem dX2_isPossible_25 : decode cX2_isPossible 25 = .ok (.iload_n 3, 1) := by decide +kernel
theorem dX2_isPossible_26 : decode cX2_isPossible 26 = .ok (.invokestatic 96, 3) := by decide +kernel
theorem dX2_isPossible_29 : decode cX2_isPossible 29 = .ok (.baload, 1) := by decide +kernel
theorem dX2_isPossible_30 : decode cX2_isPossible 30 = .ok (.ifCond .ne 18, 3) := by decide +kernel
theorem dX2_isPossible_33 : decode cX2_isPossible 33 = .ok (.aload_n 0, 1) := by decide +kernel
theorem dX2_isPossible_34 : decode cX2_isPossible 34 = .ok (.lload_n 1, 1) := by decide +kernel
theorem dX2_isPossible_35 : decode cX2_isPossible 35 = .ok (.iload 4, 2) := by decide +kernel
theorem dX2_isPossible_37 : decode cX2_isPossible 37 = .ok (.iload_n 3, 1) := by decide +kernel
theorem dX2_isPossible_38 : decode cX2_isPossible 38 = .ok (.invokevirtual 225, 3) := by decide +kernel
theorem dX2_isPossible_41 : decode cX2_isPossible 41 = .ok (.lconst 0, 1) := by decide +kernel
theorem dX2_isPossible_42 : decode cX2_isPossible 42 = .ok (.lcmp, 1) := by decide +kernel
theorem dX2_isPossible_43 : decode cX2_isPossible 43 = .ok (.ifCond .eq 5, 3) := by decide +kernel
theorem dX2_isPossible_46 : decode cX2_isPossible 46 = .ok (.iconst 0, 1) := by decide +kernel
theorem dX2_isPossible_47 : decode cX2_isPossible 47 = .ok (.ireturn, 1) := by decide +kernel
theorem dX2_isPossible_48 : decode cX2_isPossible 48 = .ok (.iinc 4 1, 3) := by decide +kernel
theorem dX2_isPossible_51 : decode cX2_isPossible 51 = .ok (.goto (-38), 3) := by decide +kernel
theorem dX2_isPossible_54 : decode cX2_isPossible 54 = .ok (.iinc 3 1, 3) := by decide +kernel
theorem dX2_isPossible_57 : decode cX2_isPossible 57 = .ok (.goto (-55), 3) := by decide +kernel
theorem dX2_isPossible_60 : decode cX2_isPossible 60 = .ok (.iconst 1, 1) := by decide +kernel
theorem dX2_isPossible_61 : decode cX2_isPossible 61 = .ok (.ireturn, 1) := by decide +kernel
set_option maxRecDepth 20000 in
theorem ggX2_costOf_J13_bitCount_95d88 : GoodIn wsX2_costOf wsJ13_bitCount_95d88 := goodIn_r _ [6, 7, 8, 9] (by decide +kernel) (by decide +kernel)
set_option maxRecDepth 20000 in
theorem gX2_costOf_J13_bitCount_95d88 : GoodIn wsX2_costOf (va_wsS RX2 163 yJ13_bitCount_95d88 wsJ13_bitCount_95d88) := goodIn_app (goodIn_of _ (by decide +kernel)) ggX2_costOf_J13_bitCount_95d88
set_option maxRecDepth 20000 in
theorem ggX2_costOf_X2_isOwed : GoodIn wsX2_costOf wsX2_isOwed := goodIn_r _ [14, 15, 16, 17, 18, 19, 20, 21, 22, 23, 13, 24, 25, 26, 27, 28, 29, 30, 31, 32, 33, 34, 35, 36, 37, 38, 39, 40, 41, 42, 43, 44, 45, 46, 47, 48, 49, 50, 51, 52, 53, 54, 55, 56, 57, 58, 59, 60, 61, 62, 63, 64, 65, 66, 67, 68, 69, 70, 71, 72, 73, 74, 75, 76, 77, 78, 79, 80, 81, 82, 83, 84, 85, 100, 101, 102, 103, 104, 105, 106, 107, 108, 91, 92, 93, 94, 95, 96, 97, 98, 99, 109, 110, 111] (by decide +kernel) (by decide +kernel)
set_option maxRecDepth 20000 in
theorem gX2_costOf_X2_isOwed : GoodIn wsX2_costOf (wsV RX2 237 RX2 yX2_isOwed wsX2_isOwed) := goodIn_app (goodIn_of _ (by decide +kernel)) ggX2_costOf_X2_isOwed
set_option maxRecDepth 20000 in
theorem ggX2_costOf_X0_price : GoodIn wsX2_costOf wsX0_price := goodIn_r _ [88, 89, 90, 100, 101, 102, 103, 104, 105, 106, 107, 108] (by decide +kernel) (by decide +kernel)
set_option maxRecDepth 20000 in
theorem gX2_costOf_X0_price_n145 : GoodIn wsX2_costOf (wsX0_price) := ggX2_costOf_X0_price
theorem dX2_costOf_0 : decode cX2_costOf 0 = .ok (.bipush 10, 2) := by decide +kernel
theorem dX2_costOf_2 : decode cX2_costOf 2 = .ok (.lload_n 1, 1) := by decide +kernel
theorem dX2_costOf_3 : decode cX2_costOf 3 = .ok (.invokestatic 163, 3) := by decide +kernel
theorem dX2_costOf_6 : decode cX2_costOf 6 = .ok (.imul, 1) := by decide +kernel
theorem dX2_costOf_7 : decode cX2_costOf 7 = .ok (.istore 4, 2) := by decide +kernel
theorem dX2_costOf_9 : decode cX2_costOf 9 = .ok (.iconst 0, 1) := by decide +kernel
theorem dX2_costOf_10 : decode cX2_costOf 10 = .ok (.istore 5, 2) := by decide +kernel
theorem dX2_costOf_12 : decode cX2_costOf 12 = .ok (.iload 5, 2) := by decide +kernel
theorem dX2_costOf_14 : decode cX2_costOf 14 = .ok (.aload_n 0, 1) := by decide +kernel
theorem dX2_costOf_15 : decode cX2_costOf 15 = .ok (.getfield 41, 3) := by decide +kernel
theorem dX2_costOf_18 : decode cX2_costOf 18 = .ok (.if_icmp .ge 40, 3) := by decide +kernel
theorem dX2_costOf_21 : decode cX2_costOf 21 = .ok (.aload_n 0, 1) := by decide +kernel
theorem dX2_costOf_22 : decode cX2_costOf 22 = .ok (.lload_n 1, 1) := by decide +kernel
theorem dX2_costOf_23 : decode cX2_costOf 23 = .ok (.aload_n 0, 1) := by decide +kernel
theorem dX2_costOf_24 : decode cX2_costOf 24 = .ok (.getfield 37, 3) := by decide +kernel
theorem dX2_costOf_27 : decode cX2_costOf 27 = .ok (.iload 5, 2) := by decide +kernel
theorem dX2_costOf_29 : decode cX2_costOf 29 = .ok (.aaload, 1) := by decide +kernel
theorem dX2_costOf_30 : decode cX2_costOf 30 = .ok (.iload_n 3, 1) := by decide +kernel
theorem dX2_costOf_31 : decode cX2_costOf 31 = .ok (.invokevirtual 237, 3) := by decide +kernel
theorem dX2_costOf_34 : decode cX2_costOf 34 = .ok (.ifCond .eq 18, 3) := by decide +kernel
theorem dX2_costOf_37 : decode cX2_costOf 37 = .ok (.iload 4, 2) := by decide +kernel
theorem dX2_costOf_39 : decode cX2_costOf 39 = .ok (.aload_n 0, 1) := by decide +kernel
theorem dX2_costOf_40 : decode cX2_costOf 40 = .ok (.getfield 37, 3) := by decide +kernel
theorem dX2_costOf_43 : decode cX2_costOf 43 = .ok (.iload 5, 2) := by decide +kernel
theorem dX2_costOf_45 : decode cX2_costOf 45 = .ok (.aaload, 1) := by decide +kernel
theorem dX2_costOf_46 : decode cX2_costOf 46 = .ok (.invokevirtual 145, 3) := by decide +kernel
theorem dX2_costOf_49 : decode cX2_costOf 49 = .ok (.iadd, 1) := by decide +kernel
theorem dX2_costOf_50 : decode cX2_costOf 50 = .ok (.istore 4, 2) := by decide +kernel
theorem dX2_costOf_52 : decode cX2_costOf 52 = .ok (.iinc 5 1, 3) := by decide +kernel
theorem dX2_costOf_55 : decode cX2_costOf 55 = .ok (.goto (-43), 3) := by decide +kernel
theorem dX2_costOf_58 : decode cX2_costOf 58 = .ok (.iload 4, 2) := by decide +kernel
theorem dX2_costOf_60 : decode cX2_costOf 60 = .ok (.ireturn, 1) := by decide +kernel
set_option maxRecDepth 20000 in
theorem ggX2_payGrounds_X2_isOwed : GoodIn wsX2_payGrounds wsX2_isOwed := goodIn_r _ [7, 8, 9, 10, 11, 12, 13, 14, 15, 16, 6, 17, 18, 19, 20, 21, 22, 23, 24, 25, 26, 27, 28, 29, 30, 31, 32, 33, 34, 35, 36, 37, 38, 39, 40, 41, 42, 43, 44, 45, 46, 47, 48, 49, 50, 51, 52, 53, 54, 55, 56, 57, 58, 59, 60, 61, 62, 63, 64, 65, 66, 67, 68, 69, 70, 71, 72, 73, 74, 75, 76, 77, 78, 93, 94, 95, 96, 97, 98, 99, 100, 101, 84, 85, 86, 87, 88, 89, 90, 91, 92, 102, 103, 104] (by decide +kernel) (by decide +kernel)
set_option maxRecDepth 20000 in
theorem gX2_payGrounds_X2_isOwed : GoodIn wsX2_payGrounds (wsV RX2 237 RX2 yX2_isOwed wsX2_isOwed) := goodIn_app (goodIn_of _ (by decide +kernel)) ggX2_payGrounds_X2_isOwed
set_option maxRecDepth 20000 in
theorem ggX2_payGrounds_X0_price : GoodIn wsX2_payGrounds wsX0_price := goodIn_r _ [81, 82, 83, 93, 94, 95, 96, 97, 98, 99, 100, 101] (by decide +kernel) (by decide +kernel)
set_option maxRecDepth 20000 in
theorem gX2_payGrounds_X0_price_n145 : GoodIn wsX2_payGrounds (wsX0_price) := ggX2_payGrounds_X0_price
theorem dX2_payGrounds_0 : decode cX2_payGrounds 0 = .ok (.iconst 0, 1) := by decide +kernel
theorem dX2_payGrounds_1 : decode cX2_payGrounds 1 = .ok (.istore 4, 2) := by decide +kernel
theorem dX2_payGrounds_3 : decode cX2_payGrounds 3 = .ok (.iload 4, 2) := by decide +kernel
theorem dX2_payGrounds_5 : decode cX2_payGrounds 5 = .ok (.aload_n 0, 1) := by decide +kernel
theorem dX2_payGrounds_6 : decode cX2_payGrounds 6 = .ok (.getfield 41, 3) := by decide +kernel
theorem dX2_payGrounds_9 : decode cX2_payGrounds 9 = .ok (.if_icmp .ge 50, 3) := by decide +kernel
theorem dX2_payGrounds_12 : decode cX2_payGrounds 12 = .ok (.aload_n 0, 1) := by decide +kernel
theorem dX2_payGrounds_13 : decode cX2_payGrounds 13 = .ok (.lload_n 1, 1) := by decide +kernel
theorem dX2_payGrounds_14 : decode cX2_payGrounds 14 = .ok (.aload_n 0, 1) := by decide +kernel
theorem dX2_payGrounds_15 : decode cX2_payGrounds 15 = .ok (.getfield 37, 3) := by decide +kernel
theorem dX2_payGrounds_18 : decode cX2_payGrounds 18 = .ok (.iload 4, 2) := by decide +kernel
theorem dX2_payGrounds_20 : decode cX2_payGrounds 20 = .ok (.aaload, 1) := by decide +kernel
theorem dX2_payGrounds_21 : decode cX2_payGrounds 21 = .ok (.iload_n 3, 1) := by decide +kernel
theorem dX2_payGrounds_22 : decode cX2_payGrounds 22 = .ok (.invokevirtual 237, 3) := by decide +kernel
theorem dX2_payGrounds_25 : decode cX2_payGrounds 25 = .ok (.ifCond .eq 28, 3) := by decide +kernel
theorem dX2_payGrounds_28 : decode cX2_payGrounds 28 = .ok (.aload_n 0, 1) := by decide +kernel
theorem dX2_payGrounds_29 : decode cX2_payGrounds 29 = .ok (.getfield 37, 3) := by decide +kernel
theorem dX2_payGrounds_32 : decode cX2_payGrounds 32 = .ok (.iload 4, 2) := by decide +kernel
theorem dX2_payGrounds_34 : decode cX2_payGrounds 34 = .ok (.aaload, 1) := by decide +kernel
theorem dX2_payGrounds_35 : decode cX2_payGrounds 35 = .ok (.dup, 1) := by decide +kernel
theorem dX2_payGrounds_36 : decode cX2_payGrounds 36 = .ok (.getfield 183, 3) := by decide +kernel
theorem dX2_payGrounds_39 : decode cX2_payGrounds 39 = .ok (.aload_n 0, 1) := by decide +kernel
theorem dX2_payGrounds_40 : decode cX2_payGrounds 40 = .ok (.getfield 37, 3) := by decide +kernel
theorem dX2_payGrounds_43 : decode cX2_payGrounds 43 = .ok (.iload 4, 2) := by decide +kernel
theorem dX2_payGrounds_45 : decode cX2_payGrounds 45 = .ok (.aaload, 1) := by decide +kernel
theorem dX2_payGrounds_46 : decode cX2_payGrounds 46 = .ok (.invokevirtual 145, 3) := by decide +kernel
theorem dX2_payGrounds_49 : decode cX2_payGrounds 49 = .ok (.iadd, 1) := by decide +kernel
theorem dX2_payGrounds_50 : decode cX2_payGrounds 50 = .ok (.putfield 183, 3) := by decide +kernel
theorem dX2_payGrounds_53 : decode cX2_payGrounds 53 = .ok (.iinc 4 1, 3) := by decide +kernel
theorem dX2_payGrounds_56 : decode cX2_payGrounds 56 = .ok (.goto (-53), 3) := by decide +kernel
theorem dX2_payGrounds_59 : decode cX2_payGrounds 59 = .ok (.return_, 1) := by decide +kernel
set_option maxRecDepth 20000 in
theorem ggX2_isOwed_X0_isShutIn : GoodIn wsX2_isOwed wsX0_isShutIn := goodIn_r _ [4, 5, 6, 73, 74, 75, 76, 77, 78, 79, 80, 81] (by decide +kernel) (by decide +kernel)
set_option maxRecDepth 20000 in
theorem gX2_isOwed_X0_isShutIn_n148 : GoodIn wsX2_isOwed (wsX0_isShutIn) := ggX2_isOwed_X0_isShutIn
set_option maxRecDepth 20000 in
theorem ggX2_isOwed_X2_isMetByAny : GoodIn wsX2_isOwed wsX2_isMetByAny := goodIn_r _ [11, 12, 13, 14, 15, 16, 17, 18, 19, 20, 10, 21, 22, 23, 24, 25, 26, 27, 28, 29, 30, 31, 32, 33, 34, 35, 36, 37, 38, 39, 40, 41, 42, 43, 44, 45, 46, 47, 48, 49, 50, 51, 52, 53, 54, 55, 56, 57, 58, 59, 60, 61, 62, 63, 64, 65, 66, 67, 68, 69, 70, 71, 72, 82, 83, 84, 85, 86, 87, 88, 89, 90, 91, 92, 93, 73, 74, 75, 76, 77, 78, 79, 80, 81] (by decide +kernel) (by decide +kernel)
set_option maxRecDepth 20000 in
theorem gX2_isOwed_X2_isMetByAny : GoodIn wsX2_isOwed (wsV RX2 241 RX2 yX2_isMetByAny wsX2_isMetByAny) := goodIn_app (goodIn_of _ (by decide +kernel)) ggX2_isOwed_X2_isMetByAny
theorem dX2_isOwed_0 : decode cX2_isOwed 0 = .ok (.aload_n 3, 1) := by decide +kernel
theorem dX2_isOwed_1 : decode cX2_isOwed 1 = .ok (.iload 4, 2) := by decide +kernel
theorem dX2_isOwed_3 : decode cX2_isOwed 3 = .ok (.invokevirtual 148, 3) := by decide +kernel
theorem dX2_isOwed_6 : decode cX2_isOwed 6 = .ok (.ifCond .eq 16, 3) := by decide +kernel
theorem dX2_isOwed_9 : decode cX2_isOwed 9 = .ok (.aload_n 0, 1) := by decide +kernel
theorem dX2_isOwed_10 : decode cX2_isOwed 10 = .ok (.lload_n 1, 1) := by decide +kernel
theorem dX2_isOwed_11 : decode cX2_isOwed 11 = .ok (.aload_n 3, 1) := by decide +kernel
theorem dX2_isOwed_12 : decode cX2_isOwed 12 = .ok (.invokevirtual 241, 3) := by decide +kernel
theorem dX2_isOwed_15 : decode cX2_isOwed 15 = .ok (.ifCond .eq 7, 3) := by decide +kernel
theorem dX2_isOwed_18 : decode cX2_isOwed 18 = .ok (.iconst 1, 1) := by decide +kernel
theorem dX2_isOwed_19 : decode cX2_isOwed 19 = .ok (.goto 4, 3) := by decide +kernel
theorem dX2_isOwed_22 : decode cX2_isOwed 22 = .ok (.iconst 0, 1) := by decide +kernel
theorem dX2_isOwed_23 : decode cX2_isOwed 23 = .ok (.ireturn, 1) := by decide +kernel
set_option maxRecDepth 20000 in
theorem ggX2_isMetByAny_X1_pieces : GoodIn wsX2_isMetByAny wsX1_pieces := goodIn_r _ [6, 7, 72, 73, 74] (by decide +kernel) (by decide +kernel)
set_option maxRecDepth 20000 in
theorem gX2_isMetByAny_X1_pieces_n200 : GoodIn wsX2_isMetByAny (wsX1_pieces) := ggX2_isMetByAny_X1_pieces
set_option maxRecDepth 20000 in
theorem ggX2_isMetByAny_X2_isIn : GoodIn wsX2_isMetByAny wsX2_isIn := goodIn_r _ [11, 12, 13, 10, 14] (by decide +kernel) (by decide +kernel)
set_option maxRecDepth 20000 in
theorem gX2_isMetByAny_X2_isIn : GoodIn wsX2_isMetByAny (va_wsS RX2 233 yX2_isIn wsX2_isIn) := goodIn_app (goodIn_of _ (by decide +kernel)) ggX2_isMetByAny_X2_isIn
set_option maxRecDepth 20000 in
theorem ggX2_isMetByAny_X1_pieceMeets : GoodIn wsX2_isMetByAny wsX1_pieceMeets := goodIn_r _ [17, 18, 19, 20, 4, 21, 22, 23, 24, 25, 26, 27, 28, 29, 30, 31, 32, 33, 34, 35, 36, 37, 38, 39, 40, 41, 42, 43, 44, 45, 46, 47, 48, 49, 50, 51, 52, 53, 54, 55, 56, 57, 58, 59, 60, 61, 62, 75, 76, 77, 78, 79, 80, 81, 82, 83, 72, 73, 74] (by decide +kernel) (by decide +kernel)
set_option maxRecDepth 20000 in
theorem gX2_isMetByAny_X1_pieceMeets_n155 : GoodIn wsX2_isMetByAny (wsX1_pieceMeets) := ggX2_isMetByAny_X1_pieceMeets
theorem dX2_isMetByAny_0 : decode cX2_isMetByAny 0 = .ok (.iconst 0, 1) := by decide +kernel
theorem dX2_isMetByAny_1 : decode cX2_isMetByAny 1 = .ok (.istore 4, 2) := by decide +kernel
theorem dX2_isMetByAny_3 : decode cX2_isMetByAny 3 = .ok (.iload 4, 2) := by decide +kernel
theorem dX2_isMetByAny_5 : decode cX2_isMetByAny 5 = .ok (.aload_n 0, 1) := by decide +kernel
theorem dX2_isMetByAny_6 : decode cX2_isMetByAny 6 = .ok (.getfield 20, 3) := by decide +kernel
theorem dX2_isMetByAny_9 : decode cX2_isMetByAny 9 = .ok (.if_icmp .ge 62, 3) := by decide +kernel
theorem dX2_isMetByAny_12 : decode cX2_isMetByAny 12 = .ok (.iconst 0, 1) := by decide +kernel
theorem dX2_isMetByAny_13 : decode cX2_isMetByAny 13 = .ok (.istore 5, 2) := by decide +kernel
theorem dX2_isMetByAny_15 : decode cX2_isMetByAny 15 = .ok (.iload 5, 2) := by decide +kernel
theorem dX2_isMetByAny_17 : decode cX2_isMetByAny 17 = .ok (.aload_n 0, 1) := by decide +kernel
theorem dX2_isMetByAny_18 : decode cX2_isMetByAny 18 = .ok (.getfield 16, 3) := by decide +kernel
theorem dX2_isMetByAny_21 : decode cX2_isMetByAny 21 = .ok (.iload 4, 2) := by decide +kernel
theorem dX2_isMetByAny_23 : decode cX2_isMetByAny 23 = .ok (.aaload, 1) := by decide +kernel
theorem dX2_isMetByAny_24 : decode cX2_isMetByAny 24 = .ok (.invokevirtual 200, 3) := by decide +kernel
theorem dX2_isMetByAny_27 : decode cX2_isMetByAny 27 = .ok (.if_icmp .ge 38, 3) := by decide +kernel
theorem dX2_isMetByAny_30 : decode cX2_isMetByAny 30 = .ok (.lload_n 1, 1) := by decide +kernel
theorem dX2_isMetByAny_31 : decode cX2_isMetByAny 31 = .ok (.iload 4, 2) := by decide +kernel
theorem dX2_isMetByAny_33 : decode cX2_isMetByAny 33 = .ok (.iload 5, 2) := by decide +kernel
theorem dX2_isMetByAny_35 : decode cX2_isMetByAny 35 = .ok (.invokestatic 233, 3) := by decide +kernel
theorem dX2_isMetByAny_38 : decode cX2_isMetByAny 38 = .ok (.ifCond .eq 21, 3) := by decide +kernel
theorem dX2_isMetByAny_41 : decode cX2_isMetByAny 41 = .ok (.aload_n 0, 1) := by decide +kernel
theorem dX2_isMetByAny_42 : decode cX2_isMetByAny 42 = .ok (.getfield 16, 3) := by decide +kernel
theorem dX2_isMetByAny_45 : decode cX2_isMetByAny 45 = .ok (.iload 4, 2) := by decide +kernel
theorem dX2_isMetByAny_47 : decode cX2_isMetByAny 47 = .ok (.aaload, 1) := by decide +kernel
theorem dX2_isMetByAny_48 : decode cX2_isMetByAny 48 = .ok (.iload 5, 2) := by decide +kernel
theorem dX2_isMetByAny_50 : decode cX2_isMetByAny 50 = .ok (.aload_n 3, 1) := by decide +kernel
theorem dX2_isMetByAny_51 : decode cX2_isMetByAny 51 = .ok (.invokevirtual 155, 3) := by decide +kernel
theorem dX2_isMetByAny_54 : decode cX2_isMetByAny 54 = .ok (.ifCond .eq 5, 3) := by decide +kernel
theorem dX2_isMetByAny_57 : decode cX2_isMetByAny 57 = .ok (.iconst 1, 1) := by decide +kernel
theorem dX2_isMetByAny_58 : decode cX2_isMetByAny 58 = .ok (.ireturn, 1) := by decide +kernel
theorem dX2_isMetByAny_59 : decode cX2_isMetByAny 59 = .ok (.iinc 5 1, 3) := by decide +kernel
theorem dX2_isMetByAny_62 : decode cX2_isMetByAny 62 = .ok (.goto (-47), 3) := by decide +kernel
theorem dX2_isMetByAny_65 : decode cX2_isMetByAny 65 = .ok (.iinc 4 1, 3) := by decide +kernel
theorem dX2_isMetByAny_68 : decode cX2_isMetByAny 68 = .ok (.goto (-65), 3) := by decide +kernel
theorem dX2_isMetByAny_71 : decode cX2_isMetByAny 71 = .ok (.iconst 0, 1) := by decide +kernel
theorem dX2_isMetByAny_72 : decode cX2_isMetByAny 72 = .ok (.ireturn, 1) := by decide +kernel
