theorem dX0_init_0 : decode cX0_init 0 = .ok (.aload_n 0, 1) := by decide +kernel
theorem dX0_init_1 : decode cX0_init 1 = .ok (.invokespecial 1, 3) := by decide +kernel
theorem dX0_init_4 : decode cX0_init 4 = .ok (.aload_n 0, 1) := by decide +kernel
theorem dX0_init_5 : decode cX0_init 5 = .ok (.iconst 0, 1) := by decide +kernel
theorem dX0_init_6 : decode cX0_init 6 = .ok (.putfield 7, 3) := by decide +kernel
theorem dX0_init_9 : decode cX0_init 9 = .ok (.aload_n 0, 1) := by decide +kernel
theorem dX0_init_10 : decode cX0_init 10 = .ok (.iconst 0, 1) := by decide +kernel
theorem dX0_init_11 : decode cX0_init 11 = .ok (.putfield 13, 3) := by decide +kernel
theorem dX0_init_14 : decode cX0_init 14 = .ok (.aload_n 0, 1) := by decide +kernel
theorem dX0_init_15 : decode cX0_init 15 = .ok (.iconst 0, 1) := by decide +kernel
theorem dX0_init_16 : decode cX0_init 16 = .ok (.putfield 16, 3) := by decide +kernel
theorem dX0_init_19 : decode cX0_init 19 = .ok (.aload_n 0, 1) := by decide +kernel
theorem dX0_init_20 : decode cX0_init 20 = .ok (.iconst 0, 1) := by decide +kernel
theorem dX0_init_21 : decode cX0_init 21 = .ok (.putfield 19, 3) := by decide +kernel
theorem dX0_init_24 : decode cX0_init 24 = .ok (.aload_n 0, 1) := by decide +kernel
theorem dX0_init_25 : decode cX0_init 25 = .ok (.iconst 0, 1) := by decide +kernel
theorem dX0_init_26 : decode cX0_init 26 = .ok (.putfield 22, 3) := by decide +kernel
theorem dX0_init_29 : decode cX0_init 29 = .ok (.aload_n 0, 1) := by decide +kernel
theorem dX0_init_30 : decode cX0_init 30 = .ok (.iconst 0, 1) := by decide +kernel
theorem dX0_init_31 : decode cX0_init 31 = .ok (.putfield 25, 3) := by decide +kernel
theorem dX0_init_34 : decode cX0_init 34 = .ok (.aload_n 0, 1) := by decide +kernel
theorem dX0_init_35 : decode cX0_init 35 = .ok (.iconst 0, 1) := by decide +kernel
theorem dX0_init_36 : decode cX0_init 36 = .ok (.putfield 28, 3) := by decide +kernel
theorem dX0_init_39 : decode cX0_init 39 = .ok (.aload_n 0, 1) := by decide +kernel
theorem dX0_init_40 : decode cX0_init 40 = .ok (.iconst 0, 1) := by decide +kernel
theorem dX0_init_41 : decode cX0_init 41 = .ok (.putfield 31, 3) := by decide +kernel
theorem dX0_init_44 : decode cX0_init 44 = .ok (.aload_n 0, 1) := by decide +kernel
theorem dX0_init_45 : decode cX0_init 45 = .ok (.iconst 0, 1) := by decide +kernel
theorem dX0_init_46 : decode cX0_init 46 = .ok (.putfield 34, 3) := by decide +kernel
theorem dX0_init_49 : decode cX0_init 49 = .ok (.return_, 1) := by decide +kernel
theorem dX0_setBounds_0 : decode cX0_setBounds 0 = .ok (.aload_n 0, 1) := by decide +kernel
theorem dX0_setBounds_1 : decode cX0_setBounds 1 = .ok (.iload_n 1, 1) := by decide +kernel
theorem dX0_setBounds_2 : decode cX0_setBounds 2 = .ok (.putfield 7, 3) := by decide +kernel
theorem dX0_setBounds_5 : decode cX0_setBounds 5 = .ok (.aload_n 0, 1) := by decide +kernel
theorem dX0_setBounds_6 : decode cX0_setBounds 6 = .ok (.iload_n 2, 1) := by decide +kernel
theorem dX0_setBounds_7 : decode cX0_setBounds 7 = .ok (.putfield 13, 3) := by decide +kernel
theorem dX0_setBounds_10 : decode cX0_setBounds 10 = .ok (.aload_n 0, 1) := by decide +kernel
theorem dX0_setBounds_11 : decode cX0_setBounds 11 = .ok (.iload_n 3, 1) := by decide +kernel
theorem dX0_setBounds_12 : decode cX0_setBounds 12 = .ok (.putfield 16, 3) := by decide +kernel
theorem dX0_setBounds_15 : decode cX0_setBounds 15 = .ok (.aload_n 0, 1) := by decide +kernel
theorem dX0_setBounds_16 : decode cX0_setBounds 16 = .ok (.iload 4, 2) := by decide +kernel
theorem dX0_setBounds_18 : decode cX0_setBounds 18 = .ok (.putfield 19, 3) := by decide +kernel
theorem dX0_setBounds_21 : decode cX0_setBounds 21 = .ok (.return_, 1) := by decide +kernel
theorem dX0_setMonths_0 : decode cX0_setMonths 0 = .ok (.aload_n 0, 1) := by decide +kernel
theorem dX0_setMonths_1 : decode cX0_setMonths 1 = .ok (.iload_n 1, 1) := by decide +kernel
theorem dX0_setMonths_2 : decode cX0_setMonths 2 = .ok (.putfield 22, 3) := by decide +kernel
theorem dX0_setMonths_5 : decode cX0_setMonths 5 = .ok (.aload_n 0, 1) := by decide +kernel
theorem dX0_setMonths_6 : decode cX0_setMonths 6 = .ok (.iload_n 2, 1) := by decide +kernel
theorem dX0_setMonths_7 : decode cX0_setMonths 7 = .ok (.putfield 25, 3) := by decide +kernel
theorem dX0_setMonths_10 : decode cX0_setMonths 10 = .ok (.return_, 1) := by decide +kernel
theorem dX0_isShutIn_0 : decode cX0_isShutIn 0 = .ok (.aload_n 0, 1) := by decide +kernel
theorem dX0_isShutIn_1 : decode cX0_isShutIn 1 = .ok (.getfield 22, 3) := by decide +kernel
theorem dX0_isShutIn_4 : decode cX0_isShutIn 4 = .ok (.aload_n 0, 1) := by decide +kernel
theorem dX0_isShutIn_5 : decode cX0_isShutIn 5 = .ok (.getfield 25, 3) := by decide +kernel
theorem dX0_isShutIn_8 : decode cX0_isShutIn 8 = .ok (.if_icmp .gt 25, 3) := by decide +kernel
theorem dX0_isShutIn_11 : decode cX0_isShutIn 11 = .ok (.aload_n 0, 1) := by decide +kernel
theorem dX0_isShutIn_12 : decode cX0_isShutIn 12 = .ok (.getfield 22, 3) := by decide +kernel
theorem dX0_isShutIn_15 : decode cX0_isShutIn 15 = .ok (.iload_n 1, 1) := by decide +kernel
theorem dX0_isShutIn_16 : decode cX0_isShutIn 16 = .ok (.if_icmp .gt 15, 3) := by decide +kernel
theorem dX0_isShutIn_19 : decode cX0_isShutIn 19 = .ok (.iload_n 1, 1) := by decide +kernel
theorem dX0_isShutIn_20 : decode cX0_isShutIn 20 = .ok (.aload_n 0, 1) := by decide +kernel
theorem dX0_isShutIn_21 : decode cX0_isShutIn 21 = .ok (.getfield 25, 3) := by decide +kernel
theorem dX0_isShutIn_24 : decode cX0_isShutIn 24 = .ok (.if_icmp .gt 7, 3) := by decide +kernel
theorem dX0_isShutIn_27 : decode cX0_isShutIn 27 = .ok (.iconst 1, 1) := by decide +kernel
theorem dX0_isShutIn_28 : decode cX0_isShutIn 28 = .ok (.goto 4, 3) := by decide +kernel
theorem dX0_isShutIn_31 : decode cX0_isShutIn 31 = .ok (.iconst 0, 1) := by decide +kernel
theorem dX0_isShutIn_32 : decode cX0_isShutIn 32 = .ok (.ireturn, 1) := by decide +kernel
theorem dX0_isShutIn_33 : decode cX0_isShutIn 33 = .ok (.aload_n 0, 1) := by decide +kernel
theorem dX0_isShutIn_34 : decode cX0_isShutIn 34 = .ok (.getfield 22, 3) := by decide +kernel
theorem dX0_isShutIn_37 : decode cX0_isShutIn 37 = .ok (.iload_n 1, 1) := by decide +kernel
theorem dX0_isShutIn_38 : decode cX0_isShutIn 38 = .ok (.if_icmp .le 11, 3) := by decide +kernel
theorem dX0_isShutIn_41 : decode cX0_isShutIn 41 = .ok (.iload_n 1, 1) := by decide +kernel
theorem dX0_isShutIn_42 : decode cX0_isShutIn 42 = .ok (.aload_n 0, 1) := by decide +kernel
theorem dX0_isShutIn_43 : decode cX0_isShutIn 43 = .ok (.getfield 25, 3) := by decide +kernel
theorem dX0_isShutIn_46 : decode cX0_isShutIn 46 = .ok (.if_icmp .gt 7, 3) := by decide +kernel
theorem dX0_isShutIn_49 : decode cX0_isShutIn 49 = .ok (.iconst 1, 1) := by decide +kernel
theorem dX0_isShutIn_50 : decode cX0_isShutIn 50 = .ok (.goto 4, 3) := by decide +kernel
theorem dX0_isShutIn_53 : decode cX0_isShutIn 53 = .ok (.iconst 0, 1) := by decide +kernel
theorem dX0_isShutIn_54 : decode cX0_isShutIn 54 = .ok (.ireturn, 1) := by decide +kernel
theorem dX0_price_0 : decode cX0_price 0 = .ok (.aload_n 0, 1) := by decide +kernel
theorem dX0_price_1 : decode cX0_price 1 = .ok (.getfield 28, 3) := by decide +kernel
theorem dX0_price_4 : decode cX0_price 4 = .ok (.ifCond .le 15, 3) := by decide +kernel
theorem dX0_price_7 : decode cX0_price 7 = .ok (.aload_n 0, 1) := by decide +kernel
theorem dX0_price_8 : decode cX0_price 8 = .ok (.getfield 31, 3) := by decide +kernel
theorem dX0_price_11 : decode cX0_price 11 = .ok (.aload_n 0, 1) := by decide +kernel
theorem dX0_price_12 : decode cX0_price 12 = .ok (.getfield 28, 3) := by decide +kernel
theorem dX0_price_15 : decode cX0_price 15 = .ok (.idiv, 1) := by decide +kernel
theorem dX0_price_16 : decode cX0_price 16 = .ok (.goto 4, 3) := by decide +kernel
theorem dX0_price_19 : decode cX0_price 19 = .ok (.iconst 0, 1) := by decide +kernel
theorem dX0_price_20 : decode cX0_price 20 = .ok (.ireturn, 1) := by decide +kernel
theorem dX1_init_0 : decode cX1_init 0 = .ok (.aload_n 0, 1) := by decide +kernel
theorem dX1_init_1 : decode cX1_init 1 = .ok (.invokespecial 3, 3) := by decide +kernel
theorem dX1_init_4 : decode cX1_init 4 = .ok (.aload_n 0, 1) := by decide +kernel
theorem dX1_init_5 : decode cX1_init 5 = .ok (.bipush 8, 2) := by decide +kernel
theorem dX1_init_7 : decode cX1_init 7 = .ok (.newarray .int, 2) := by decide +kernel
theorem dX1_init_9 : decode cX1_init 9 = .ok (.putfield 9, 3) := by decide +kernel
theorem dX1_init_12 : decode cX1_init 12 = .ok (.aload_n 0, 1) := by decide +kernel
theorem dX1_init_13 : decode cX1_init 13 = .ok (.bipush 8, 2) := by decide +kernel
theorem dX1_init_15 : decode cX1_init 15 = .ok (.newarray .int, 2) := by decide +kernel
theorem dX1_init_17 : decode cX1_init 17 = .ok (.putfield 15, 3) := by decide +kernel
theorem dX1_init_20 : decode cX1_init 20 = .ok (.aload_n 0, 1) := by decide +kernel
theorem dX1_init_21 : decode cX1_init 21 = .ok (.iconst 0, 1) := by decide +kernel
theorem dX1_init_22 : decode cX1_init 22 = .ok (.putfield 18, 3) := by decide +kernel
theorem dX1_init_25 : decode cX1_init 25 = .ok (.return_, 1) := by decide +kernel
theorem dX1_pieces_0 : decode cX1_pieces 0 = .ok (.aload_n 0, 1) := by decide +kernel
theorem dX1_pieces_1 : decode cX1_pieces 1 = .ok (.getfield 18, 3) := by decide +kernel
theorem dX1_pieces_4 : decode cX1_pieces 4 = .ok (.iconst 1, 1) := by decide +kernel
theorem dX1_pieces_5 : decode cX1_pieces 5 = .ok (.isub, 1) := by decide +kernel
theorem dX1_pieces_6 : decode cX1_pieces 6 = .ok (.ireturn, 1) := by decide +kernel
theorem dX1_isAt_0 : decode cX1_isAt 0 = .ok (.iload_n 1, 1) := by decide +kernel
theorem dX1_isAt_1 : decode cX1_isAt 1 = .ok (.ifCond .lt 35, 3) := by decide +kernel
theorem dX1_isAt_4 : decode cX1_isAt 4 = .ok (.iload_n 1, 1) := by decide +kernel
theorem dX1_isAt_5 : decode cX1_isAt 5 = .ok (.aload_n 0, 1) := by decide +kernel
theorem dX1_isAt_6 : decode cX1_isAt 6 = .ok (.getfield 18, 3) := by decide +kernel
theorem dX1_isAt_9 : decode cX1_isAt 9 = .ok (.if_icmp .ge 27, 3) := by decide +kernel
theorem dX1_isAt_12 : decode cX1_isAt 12 = .ok (.aload_n 0, 1) := by decide +kernel
theorem dX1_isAt_13 : decode cX1_isAt 13 = .ok (.getfield 9, 3) := by decide +kernel
theorem dX1_isAt_16 : decode cX1_isAt 16 = .ok (.iload_n 1, 1) := by decide +kernel
theorem dX1_isAt_17 : decode cX1_isAt 17 = .ok (.iaload, 1) := by decide +kernel
theorem dX1_isAt_18 : decode cX1_isAt 18 = .ok (.iload_n 2, 1) := by decide +kernel
theorem dX1_isAt_19 : decode cX1_isAt 19 = .ok (.if_icmp .ne 17, 3) := by decide +kernel
theorem dX1_isAt_22 : decode cX1_isAt 22 = .ok (.aload_n 0, 1) := by decide +kernel
theorem dX1_isAt_23 : decode cX1_isAt 23 = .ok (.getfield 15, 3) := by decide +kernel
theorem dX1_isAt_26 : decode cX1_isAt 26 = .ok (.iload_n 1, 1) := by decide +kernel
theorem dX1_isAt_27 : decode cX1_isAt 27 = .ok (.iaload, 1) := by decide +kernel
theorem dX1_isAt_28 : decode cX1_isAt 28 = .ok (.iload_n 3, 1) := by decide +kernel
theorem dX1_isAt_29 : decode cX1_isAt 29 = .ok (.if_icmp .ne 7, 3) := by decide +kernel
theorem dX1_isAt_32 : decode cX1_isAt 32 = .ok (.iconst 1, 1) := by decide +kernel
theorem dX1_isAt_33 : decode cX1_isAt 33 = .ok (.goto 4, 3) := by decide +kernel
theorem dX1_isAt_36 : decode cX1_isAt 36 = .ok (.iconst 0, 1) := by decide +kernel
theorem dX1_isAt_37 : decode cX1_isAt 37 = .ok (.ireturn, 1) := by decide +kernel
theorem dX1_add_0 : decode cX1_add 0 = .ok (.aload_n 0, 1) := by decide +kernel
theorem dX1_add_1 : decode cX1_add 1 = .ok (.getfield 9, 3) := by decide +kernel
theorem dX1_add_4 : decode cX1_add 4 = .ok (.aload_n 0, 1) := by decide +kernel
theorem dX1_add_5 : decode cX1_add 5 = .ok (.getfield 18, 3) := by decide +kernel
theorem dX1_add_8 : decode cX1_add 8 = .ok (.iload_n 1, 1) := by decide +kernel
theorem dX1_add_9 : decode cX1_add 9 = .ok (.iastore, 1) := by decide +kernel
theorem dX1_add_10 : decode cX1_add 10 = .ok (.aload_n 0, 1) := by decide +kernel
theorem dX1_add_11 : decode cX1_add 11 = .ok (.getfield 15, 3) := by decide +kernel
theorem dX1_add_14 : decode cX1_add 14 = .ok (.aload_n 0, 1) := by decide +kernel
theorem dX1_add_15 : decode cX1_add 15 = .ok (.getfield 18, 3) := by decide +kernel
theorem dX1_add_18 : decode cX1_add 18 = .ok (.iload_n 2, 1) := by decide +kernel
theorem dX1_add_19 : decode cX1_add 19 = .ok (.iastore, 1) := by decide +kernel
theorem dX1_add_20 : decode cX1_add 20 = .ok (.aload_n 0, 1) := by decide +kernel
theorem dX1_add_21 : decode cX1_add 21 = .ok (.dup, 1) := by decide +kernel
theorem dX1_add_22 : decode cX1_add 22 = .ok (.getfield 18, 3) := by decide +kernel
theorem dX1_add_25 : decode cX1_add 25 = .ok (.iconst 1, 1) := by decide +kernel
theorem dX1_add_26 : decode cX1_add 26 = .ok (.iadd, 1) := by decide +kernel
theorem dX1_add_27 : decode cX1_add 27 = .ok (.putfield 18, 3) := by decide +kernel
theorem dX1_add_30 : decode cX1_add 30 = .ok (.return_, 1) := by decide +kernel
theorem dX1_takeAllOf_0 : decode cX1_takeAllOf 0 = .ok (.aload_n 1, 1) := by decide +kernel
theorem dX1_takeAllOf_1 : decode cX1_takeAllOf 1 = .ok (.getfield 9, 3) := by decide +kernel
theorem dX1_takeAllOf_4 : decode cX1_takeAllOf 4 = .ok (.iconst 0, 1) := by decide +kernel
theorem dX1_takeAllOf_5 : decode cX1_takeAllOf 5 = .ok (.aload_n 0, 1) := by decide +kernel
theorem dX1_takeAllOf_6 : decode cX1_takeAllOf 6 = .ok (.getfield 9, 3) := by decide +kernel
theorem dX1_takeAllOf_9 : decode cX1_takeAllOf 9 = .ok (.iconst 0, 1) := by decide +kernel
theorem dX1_takeAllOf_10 : decode cX1_takeAllOf 10 = .ok (.bipush 8, 2) := by decide +kernel
theorem dX1_takeAllOf_12 : decode cX1_takeAllOf 12 = .ok (.invokestatic 22, 3) := by decide +kernel
theorem dX1_takeAllOf_15 : decode cX1_takeAllOf 15 = .ok (.aload_n 1, 1) := by decide +kernel
theorem dX1_takeAllOf_16 : decode cX1_takeAllOf 16 = .ok (.getfield 15, 3) := by decide +kernel
theorem dX1_takeAllOf_19 : decode cX1_takeAllOf 19 = .ok (.iconst 0, 1) := by decide +kernel
theorem dX1_takeAllOf_20 : decode cX1_takeAllOf 20 = .ok (.aload_n 0, 1) := by decide +kernel
theorem dX1_takeAllOf_21 : decode cX1_takeAllOf 21 = .ok (.getfield 15, 3) := by decide +kernel
theorem dX1_takeAllOf_24 : decode cX1_takeAllOf 24 = .ok (.iconst 0, 1) := by decide +kernel
theorem dX1_takeAllOf_25 : decode cX1_takeAllOf 25 = .ok (.bipush 8, 2) := by decide +kernel
theorem dX1_takeAllOf_27 : decode cX1_takeAllOf 27 = .ok (.invokestatic 22, 3) := by decide +kernel
theorem dX1_takeAllOf_30 : decode cX1_takeAllOf 30 = .ok (.aload_n 0, 1) := by decide +kernel
theorem dX1_takeAllOf_31 : decode cX1_takeAllOf 31 = .ok (.aload_n 1, 1) := by decide +kernel
theorem dX1_takeAllOf_32 : decode cX1_takeAllOf 32 = .ok (.getfield 18, 3) := by decide +kernel
theorem dX1_takeAllOf_35 : decode cX1_takeAllOf 35 = .ok (.putfield 18, 3) := by decide +kernel
theorem dX1_takeAllOf_38 : decode cX1_takeAllOf 38 = .ok (.return_, 1) := by decide +kernel
theorem dX1_width_0 : decode cX1_width 0 = .ok (.aload_n 0, 1) := by decide +kernel
theorem dX1_width_1 : decode cX1_width 1 = .ok (.getfield 9, 3) := by decide +kernel
theorem dX1_width_4 : decode cX1_width 4 = .ok (.iload_n 1, 1) := by decide +kernel
theorem dX1_width_5 : decode cX1_width 5 = .ok (.iconst 1, 1) := by decide +kernel
theorem dX1_width_6 : decode cX1_width 6 = .ok (.iadd, 1) := by decide +kernel
theorem dX1_width_7 : decode cX1_width 7 = .ok (.iaload, 1) := by decide +kernel
theorem dX1_width_8 : decode cX1_width 8 = .ok (.aload_n 0, 1) := by decide +kernel
theorem dX1_width_9 : decode cX1_width 9 = .ok (.getfield 9, 3) := by decide +kernel
theorem dX1_width_12 : decode cX1_width 12 = .ok (.iload_n 1, 1) := by decide +kernel
theorem dX1_width_13 : decode cX1_width 13 = .ok (.iaload, 1) := by decide +kernel
theorem dX1_width_14 : decode cX1_width 14 = .ok (.isub, 1) := by decide +kernel
theorem dX1_width_15 : decode cX1_width 15 = .ok (.ireturn, 1) := by decide +kernel
theorem dX1_height_0 : decode cX1_height 0 = .ok (.aload_n 0, 1) := by decide +kernel
theorem dX1_height_1 : decode cX1_height 1 = .ok (.getfield 15, 3) := by decide +kernel
theorem dX1_height_4 : decode cX1_height 4 = .ok (.iload_n 1, 1) := by decide +kernel
theorem dX1_height_5 : decode cX1_height 5 = .ok (.iconst 1, 1) := by decide +kernel
theorem dX1_height_6 : decode cX1_height 6 = .ok (.iadd, 1) := by decide +kernel
theorem dX1_height_7 : decode cX1_height 7 = .ok (.iaload, 1) := by decide +kernel
theorem dX1_height_8 : decode cX1_height 8 = .ok (.aload_n 0, 1) := by decide +kernel
theorem dX1_height_9 : decode cX1_height 9 = .ok (.getfield 15, 3) := by decide +kernel
theorem dX1_height_12 : decode cX1_height 12 = .ok (.iload_n 1, 1) := by decide +kernel
theorem dX1_height_13 : decode cX1_height 13 = .ok (.iaload, 1) := by decide +kernel
theorem dX1_height_14 : decode cX1_height 14 = .ok (.isub, 1) := by decide +kernel
theorem dX1_height_15 : decode cX1_height 15 = .ok (.ireturn, 1) := by decide +kernel
set_option maxRecDepth 20000 in
theorem ggX1_sideOf_X1_width : GoodIn wsX1_sideOf wsX1_width := goodIn_r _ [7, 2, 12, 13, 14] (by decide +kernel) (by decide +kernel)
set_option maxRecDepth 20000 in
theorem gX1_sideOf_X1_width : GoodIn wsX1_sideOf (wsV RX1 28 RX1 yX1_width wsX1_width) := goodIn_app (goodIn_of _ (by decide +kernel)) ggX1_sideOf_X1_width
set_option maxRecDepth 20000 in
theorem ggX1_sideOf_X1_height : GoodIn wsX1_sideOf wsX1_height := goodIn_r _ [11, 1, 12, 13, 14] (by decide +kernel) (by decide +kernel)
set_option maxRecDepth 20000 in
theorem gX1_sideOf_X1_height : GoodIn wsX1_sideOf (wsV RX1 32 RX1 yX1_height wsX1_height) := goodIn_app (goodIn_of _ (by decide +kernel)) ggX1_sideOf_X1_height
theorem dX1_sideOf_0 : decode cX1_sideOf 0 = .ok (.aload_n 0, 1) := by decide +kernel
theorem dX1_sideOf_1 : decode cX1_sideOf 1 = .ok (.iload_n 1, 1) := by decide +kernel
theorem dX1_sideOf_2 : decode cX1_sideOf 2 = .ok (.invokevirtual 28, 3) := by decide +kernel
theorem dX1_sideOf_5 : decode cX1_sideOf 5 = .ok (.iload_n 3, 1) := by decide +kernel
theorem dX1_sideOf_6 : decode cX1_sideOf 6 = .ok (.aload_n 0, 1) := by decide +kernel
theorem dX1_sideOf_7 : decode cX1_sideOf 7 = .ok (.getfield 15, 3) := by decide +kernel
theorem dX1_sideOf_10 : decode cX1_sideOf 10 = .ok (.iload_n 1, 1) := by decide +kernel
theorem dX1_sideOf_11 : decode cX1_sideOf 11 = .ok (.iaload, 1) := by decide +kernel
theorem dX1_sideOf_12 : decode cX1_sideOf 12 = .ok (.isub, 1) := by decide +kernel
theorem dX1_sideOf_13 : decode cX1_sideOf 13 = .ok (.imul, 1) := by decide +kernel
theorem dX1_sideOf_14 : decode cX1_sideOf 14 = .ok (.aload_n 0, 1) := by decide +kernel
theorem dX1_sideOf_15 : decode cX1_sideOf 15 = .ok (.iload_n 1, 1) := by decide +kernel
theorem dX1_sideOf_16 : decode cX1_sideOf 16 = .ok (.invokevirtual 32, 3) := by decide +kernel
theorem dX1_sideOf_19 : decode cX1_sideOf 19 = .ok (.iload_n 2, 1) := by decide +kernel
theorem dX1_sideOf_20 : decode cX1_sideOf 20 = .ok (.aload_n 0, 1) := by decide +kernel
theorem dX1_sideOf_21 : decode cX1_sideOf 21 = .ok (.getfield 9, 3) := by decide +kernel
theorem dX1_sideOf_24 : decode cX1_sideOf 24 = .ok (.iload_n 1, 1) := by decide +kernel
theorem dX1_sideOf_25 : decode cX1_sideOf 25 = .ok (.iaload, 1) := by decide +kernel
theorem dX1_sideOf_26 : decode cX1_sideOf 26 = .ok (.isub, 1) := by decide +kernel
theorem dX1_sideOf_27 : decode cX1_sideOf 27 = .ok (.imul, 1) := by decide +kernel
theorem dX1_sideOf_28 : decode cX1_sideOf 28 = .ok (.isub, 1) := by decide +kernel
theorem dX1_sideOf_29 : decode cX1_sideOf 29 = .ok (.ireturn, 1) := by decide +kernel
theorem dX1_leftOf_0 : decode cX1_leftOf 0 = .ok (.aload_n 0, 1) := by decide +kernel
theorem dX1_leftOf_1 : decode cX1_leftOf 1 = .ok (.getfield 9, 3) := by decide +kernel
theorem dX1_leftOf_4 : decode cX1_leftOf 4 = .ok (.iload_n 1, 1) := by decide +kernel
theorem dX1_leftOf_5 : decode cX1_leftOf 5 = .ok (.iaload, 1) := by decide +kernel
theorem dX1_leftOf_6 : decode cX1_leftOf 6 = .ok (.aload_n 0, 1) := by decide +kernel
theorem dX1_leftOf_7 : decode cX1_leftOf 7 = .ok (.getfield 9, 3) := by decide +kernel
theorem dX1_leftOf_10 : decode cX1_leftOf 10 = .ok (.iload_n 1, 1) := by decide +kernel
theorem dX1_leftOf_11 : decode cX1_leftOf 11 = .ok (.iconst 1, 1) := by decide +kernel
theorem dX1_leftOf_12 : decode cX1_leftOf 12 = .ok (.iadd, 1) := by decide +kernel
theorem dX1_leftOf_13 : decode cX1_leftOf 13 = .ok (.iaload, 1) := by decide +kernel
theorem dX1_leftOf_14 : decode cX1_leftOf 14 = .ok (.invokestatic 35, 3) := by decide +kernel
theorem dX1_leftOf_17 : decode cX1_leftOf 17 = .ok (.ireturn, 1) := by decide +kernel
theorem dX1_rightOf_0 : decode cX1_rightOf 0 = .ok (.aload_n 0, 1) := by decide +kernel
theorem dX1_rightOf_1 : decode cX1_rightOf 1 = .ok (.getfield 9, 3) := by decide +kernel
theorem dX1_rightOf_4 : decode cX1_rightOf 4 = .ok (.iload_n 1, 1) := by decide +kernel
theorem dX1_rightOf_5 : decode cX1_rightOf 5 = .ok (.iaload, 1) := by decide +kernel
theorem dX1_rightOf_6 : decode cX1_rightOf 6 = .ok (.aload_n 0, 1) := by decide +kernel
theorem dX1_rightOf_7 : decode cX1_rightOf 7 = .ok (.getfield 9, 3) := by decide +kernel
theorem dX1_rightOf_10 : decode cX1_rightOf 10 = .ok (.iload_n 1, 1) := by decide +kernel
theorem dX1_rightOf_11 : decode cX1_rightOf 11 = .ok (.iconst 1, 1) := by decide +kernel
theorem dX1_rightOf_12 : decode cX1_rightOf 12 = .ok (.iadd, 1) := by decide +kernel
theorem dX1_rightOf_13 : decode cX1_rightOf 13 = .ok (.iaload, 1) := by decide +kernel
theorem dX1_rightOf_14 : decode cX1_rightOf 14 = .ok (.invokestatic 41, 3) := by decide +kernel
theorem dX1_rightOf_17 : decode cX1_rightOf 17 = .ok (.ireturn, 1) := by decide +kernel
theorem dX1_lowOf_0 : decode cX1_lowOf 0 = .ok (.aload_n 0, 1) := by decide +kernel
theorem dX1_lowOf_1 : decode cX1_lowOf 1 = .ok (.getfield 15, 3) := by decide +kernel
theorem dX1_lowOf_4 : decode cX1_lowOf 4 = .ok (.iload_n 1, 1) := by decide +kernel
theorem dX1_lowOf_5 : decode cX1_lowOf 5 = .ok (.iaload, 1) := by decide +kernel
theorem dX1_lowOf_6 : decode cX1_lowOf 6 = .ok (.aload_n 0, 1) := by decide +kernel
theorem dX1_lowOf_7 : decode cX1_lowOf 7 = .ok (.getfield 15, 3) := by decide +kernel
theorem dX1_lowOf_10 : decode cX1_lowOf 10 = .ok (.iload_n 1, 1) := by decide +kernel
theorem dX1_lowOf_11 : decode cX1_lowOf 11 = .ok (.iconst 1, 1) := by decide +kernel
theorem dX1_lowOf_12 : decode cX1_lowOf 12 = .ok (.iadd, 1) := by decide +kernel
theorem dX1_lowOf_13 : decode cX1_lowOf 13 = .ok (.iaload, 1) := by decide +kernel
theorem dX1_lowOf_14 : decode cX1_lowOf 14 = .ok (.invokestatic 35, 3) := by decide +kernel
theorem dX1_lowOf_17 : decode cX1_lowOf 17 = .ok (.ireturn, 1) := by decide +kernel
theorem dX1_highOf_0 : decode cX1_highOf 0 = .ok (.aload_n 0, 1) := by decide +kernel
theorem dX1_highOf_1 : decode cX1_highOf 1 = .ok (.getfield 15, 3) := by decide +kernel
theorem dX1_highOf_4 : decode cX1_highOf 4 = .ok (.iload_n 1, 1) := by decide +kernel
theorem dX1_highOf_5 : decode cX1_highOf 5 = .ok (.iaload, 1) := by decide +kernel
theorem dX1_highOf_6 : decode cX1_highOf 6 = .ok (.aload_n 0, 1) := by decide +kernel
theorem dX1_highOf_7 : decode cX1_highOf 7 = .ok (.getfield 15, 3) := by decide +kernel
theorem dX1_highOf_10 : decode cX1_highOf 10 = .ok (.iload_n 1, 1) := by decide +kernel
theorem dX1_highOf_11 : decode cX1_highOf 11 = .ok (.iconst 1, 1) := by decide +kernel
theorem dX1_highOf_12 : decode cX1_highOf 12 = .ok (.iadd, 1) := by decide +kernel
theorem dX1_highOf_13 : decode cX1_highOf 13 = .ok (.iaload, 1) := by decide +kernel
theorem dX1_highOf_14 : decode cX1_highOf 14 = .ok (.invokestatic 41, 3) := by decide +kernel
theorem dX1_highOf_17 : decode cX1_highOf 17 = .ok (.ireturn, 1) := by decide +kernel
set_option maxRecDepth 20000 in
theorem ggX1_pieceCrosses_X1_leftOf : GoodIn wsX1_pieceCrosses wsX1_leftOf := goodIn_r _ [5, 6, 7, 8, 9, 10, 47, 48, 49] (by decide +kernel) (by decide +kernel)
set_option maxRecDepth 20000 in
theorem gX1_pieceCrosses_X1_leftOf : GoodIn wsX1_pieceCrosses (wsV RX1 44 RX1 yX1_leftOf wsX1_leftOf) := goodIn_app (goodIn_of _ (by decide +kernel)) ggX1_pieceCrosses_X1_leftOf
set_option maxRecDepth 20000 in
theorem ggX1_pieceCrosses_X1_lowOf : GoodIn wsX1_pieceCrosses wsX1_lowOf := goodIn_r _ [14, 15, 7, 8, 9, 10, 47, 48, 49] (by decide +kernel) (by decide +kernel)
set_option maxRecDepth 20000 in
theorem gX1_pieceCrosses_X1_lowOf : GoodIn wsX1_pieceCrosses (wsV RX1 47 RX1 yX1_lowOf wsX1_lowOf) := goodIn_app (goodIn_of _ (by decide +kernel)) ggX1_pieceCrosses_X1_lowOf
set_option maxRecDepth 20000 in
theorem ggX1_pieceCrosses_X1_rightOf : GoodIn wsX1_pieceCrosses wsX1_rightOf := goodIn_r _ [19, 6, 20, 21, 9, 22, 47, 48, 49] (by decide +kernel) (by decide +kernel)
set_option maxRecDepth 20000 in
theorem gX1_pieceCrosses_X1_rightOf : GoodIn wsX1_pieceCrosses (wsV RX1 50 RX1 yX1_rightOf wsX1_rightOf) := goodIn_app (goodIn_of _ (by decide +kernel)) ggX1_pieceCrosses_X1_rightOf
set_option maxRecDepth 20000 in
theorem ggX1_pieceCrosses_X1_highOf : GoodIn wsX1_pieceCrosses wsX1_highOf := goodIn_r _ [26, 15, 20, 21, 9, 22, 47, 48, 49] (by decide +kernel) (by decide +kernel)
set_option maxRecDepth 20000 in
theorem gX1_pieceCrosses_X1_highOf : GoodIn wsX1_pieceCrosses (wsV RX1 53 RX1 yX1_highOf wsX1_highOf) := goodIn_app (goodIn_of _ (by decide +kernel)) ggX1_pieceCrosses_X1_highOf
set_option maxRecDepth 20000 in
theorem ggX1_pieceCrosses_X1_boxMeets : GoodIn wsX1_pieceCrosses wsX1_boxMeets := goodIn_r _ [30, 1, 2, 3, 4, 5, 6, 7, 8, 9, 10, 16, 17, 18, 19, 20, 21, 22, 11, 12, 13, 14, 15, 23, 24, 25, 26, 47, 48, 49] (by decide +kernel) (by decide +kernel)
set_option maxRecDepth 20000 in
theorem gX1_pieceCrosses_X1_boxMeets : GoodIn wsX1_pieceCrosses (wsV RX1 56 RX1 yX1_boxMeets wsX1_boxMeets) := goodIn_app (goodIn_of _ (by decide +kernel)) ggX1_pieceCrosses_X1_boxMeets
set_option maxRecDepth 20000 in
theorem ggX1_pieceCrosses_X1_lineDivides : GoodIn wsX1_pieceCrosses wsX1_lineDivides := goodIn_r _ [34, 6, 15, 7, 8, 9, 10, 20, 21, 22, 35, 36, 37, 4, 38, 39, 40, 41, 42, 43, 44, 45, 46, 47, 48, 49] (by decide +kernel) (by decide +kernel)
set_option maxRecDepth 20000 in
theorem gX1_pieceCrosses_X1_lineDivides : GoodIn wsX1_pieceCrosses (wsV RX1 60 RX1 yX1_lineDivides wsX1_lineDivides) := goodIn_app (goodIn_of _ (by decide +kernel)) ggX1_pieceCrosses_X1_lineDivides
theorem dX1_pieceCrosses_0 : decode cX1_pieceCrosses 0 = .ok (.aload_n 0, 1) := by decide +kernel
theorem dX1_pieceCrosses_1 : decode cX1_pieceCrosses 1 = .ok (.iload_n 1, 1) := by decide +kernel
theorem dX1_pieceCrosses_2 : decode cX1_pieceCrosses 2 = .ok (.aload_n 2, 1) := by decide +kernel
theorem dX1_pieceCrosses_3 : decode cX1_pieceCrosses 3 = .ok (.iload_n 3, 1) := by decide +kernel
theorem dX1_pieceCrosses_4 : decode cX1_pieceCrosses 4 = .ok (.invokevirtual 44, 3) := by decide +kernel
theorem dX1_pieceCrosses_7 : decode cX1_pieceCrosses 7 = .ok (.aload_n 2, 1) := by decide +kernel
theorem dX1_pieceCrosses_8 : decode cX1_pieceCrosses 8 = .ok (.iload_n 3, 1) := by decide +kernel
theorem dX1_pieceCrosses_9 : decode cX1_pieceCrosses 9 = .ok (.invokevirtual 47, 3) := by decide +kernel
theorem dX1_pieceCrosses_12 : decode cX1_pieceCrosses 12 = .ok (.aload_n 2, 1) := by decide +kernel
theorem dX1_pieceCrosses_13 : decode cX1_pieceCrosses 13 = .ok (.iload_n 3, 1) := by decide +kernel
theorem dX1_pieceCrosses_14 : decode cX1_pieceCrosses 14 = .ok (.invokevirtual 50, 3) := by decide +kernel
theorem dX1_pieceCrosses_17 : decode cX1_pieceCrosses 17 = .ok (.aload_n 2, 1) := by decide +kernel
theorem dX1_pieceCrosses_18 : decode cX1_pieceCrosses 18 = .ok (.iload_n 3, 1) := by decide +kernel
theorem dX1_pieceCrosses_19 : decode cX1_pieceCrosses 19 = .ok (.invokevirtual 53, 3) := by decide +kernel
theorem dX1_pieceCrosses_22 : decode cX1_pieceCrosses 22 = .ok (.invokevirtual 56, 3) := by decide +kernel
theorem dX1_pieceCrosses_25 : decode cX1_pieceCrosses 25 = .ok (.ifCond .eq 27, 3) := by decide +kernel
theorem dX1_pieceCrosses_28 : decode cX1_pieceCrosses 28 = .ok (.aload_n 0, 1) := by decide +kernel
theorem dX1_pieceCrosses_29 : decode cX1_pieceCrosses 29 = .ok (.iload_n 1, 1) := by decide +kernel
theorem dX1_pieceCrosses_30 : decode cX1_pieceCrosses 30 = .ok (.aload_n 2, 1) := by decide +kernel
theorem dX1_pieceCrosses_31 : decode cX1_pieceCrosses 31 = .ok (.iload_n 3, 1) := by decide +kernel
theorem dX1_pieceCrosses_32 : decode cX1_pieceCrosses 32 = .ok (.invokevirtual 60, 3) := by decide +kernel
theorem dX1_pieceCrosses_35 : decode cX1_pieceCrosses 35 = .ok (.ifCond .eq 17, 3) := by decide +kernel
theorem dX1_pieceCrosses_38 : decode cX1_pieceCrosses 38 = .ok (.aload_n 2, 1) := by decide +kernel
theorem dX1_pieceCrosses_39 : decode cX1_pieceCrosses 39 = .ok (.iload_n 3, 1) := by decide +kernel
theorem dX1_pieceCrosses_40 : decode cX1_pieceCrosses 40 = .ok (.aload_n 0, 1) := by decide +kernel
theorem dX1_pieceCrosses_41 : decode cX1_pieceCrosses 41 = .ok (.iload_n 1, 1) := by decide +kernel
theorem dX1_pieceCrosses_42 : decode cX1_pieceCrosses 42 = .ok (.invokevirtual 60, 3) := by decide +kernel
theorem dX1_pieceCrosses_45 : decode cX1_pieceCrosses 45 = .ok (.ifCond .eq 7, 3) := by decide +kernel
theorem dX1_pieceCrosses_48 : decode cX1_pieceCrosses 48 = .ok (.iconst 1, 1) := by decide +kernel
theorem dX1_pieceCrosses_49 : decode cX1_pieceCrosses 49 = .ok (.goto 4, 3) := by decide +kernel
theorem dX1_pieceCrosses_52 : decode cX1_pieceCrosses 52 = .ok (.iconst 0, 1) := by decide +kernel
theorem dX1_pieceCrosses_53 : decode cX1_pieceCrosses 53 = .ok (.ireturn, 1) := by decide +kernel
set_option maxRecDepth 20000 in
theorem ggX1_boxMeets_X1_leftOf : GoodIn wsX1_boxMeets wsX1_leftOf := goodIn_r _ [5, 6, 7, 8, 9, 10, 27, 28, 29] (by decide +kernel) (by decide +kernel)
set_option maxRecDepth 20000 in
theorem gX1_boxMeets_X1_leftOf : GoodIn wsX1_boxMeets (wsV RX1 44 RX1 yX1_leftOf wsX1_leftOf) := goodIn_app (goodIn_of _ (by decide +kernel)) ggX1_boxMeets_X1_leftOf
set_option maxRecDepth 20000 in
theorem ggX1_boxMeets_X1_rightOf : GoodIn wsX1_boxMeets wsX1_rightOf := goodIn_r _ [14, 6, 15, 16, 9, 17, 27, 28, 29] (by decide +kernel) (by decide +kernel)
set_option maxRecDepth 20000 in
theorem gX1_boxMeets_X1_rightOf : GoodIn wsX1_boxMeets (wsV RX1 50 RX1 yX1_rightOf wsX1_rightOf) := goodIn_app (goodIn_of _ (by decide +kernel)) ggX1_boxMeets_X1_rightOf
set_option maxRecDepth 20000 in
theorem ggX1_boxMeets_X1_lowOf : GoodIn wsX1_boxMeets wsX1_lowOf := goodIn_r _ [21, 22, 7, 8, 9, 10, 27, 28, 29] (by decide +kernel) (by decide +kernel)
set_option maxRecDepth 20000 in
theorem gX1_boxMeets_X1_lowOf : GoodIn wsX1_boxMeets (wsV RX1 47 RX1 yX1_lowOf wsX1_lowOf) := goodIn_app (goodIn_of _ (by decide +kernel)) ggX1_boxMeets_X1_lowOf
set_option maxRecDepth 20000 in
theorem ggX1_boxMeets_X1_highOf : GoodIn wsX1_boxMeets wsX1_highOf := goodIn_r _ [26, 22, 15, 16, 9, 17, 27, 28, 29] (by decide +kernel) (by decide +kernel)
set_option maxRecDepth 20000 in
theorem gX1_boxMeets_X1_highOf : GoodIn wsX1_boxMeets (wsV RX1 53 RX1 yX1_highOf wsX1_highOf) := goodIn_app (goodIn_of _ (by decide +kernel)) ggX1_boxMeets_X1_highOf
theorem dX1_boxMeets_0 : decode cX1_boxMeets 0 = .ok (.aload_n 0, 1) := by decide +kernel
theorem dX1_boxMeets_1 : decode cX1_boxMeets 1 = .ok (.iload_n 1, 1) := by decide +kernel
theorem dX1_boxMeets_2 : decode cX1_boxMeets 2 = .ok (.invokevirtual 44, 3) := by decide +kernel
theorem dX1_boxMeets_5 : decode cX1_boxMeets 5 = .ok (.iload 4, 2) := by decide +kernel
theorem dX1_boxMeets_7 : decode cX1_boxMeets 7 = .ok (.if_icmp .gt 35, 3) := by decide +kernel
theorem dX1_boxMeets_10 : decode cX1_boxMeets 10 = .ok (.aload_n 0, 1) := by decide +kernel
theorem dX1_boxMeets_11 : decode cX1_boxMeets 11 = .ok (.iload_n 1, 1) := by decide +kernel
theorem dX1_boxMeets_12 : decode cX1_boxMeets 12 = .ok (.invokevirtual 50, 3) := by decide +kernel
theorem dX1_boxMeets_15 : decode cX1_boxMeets 15 = .ok (.iload_n 2, 1) := by decide +kernel
theorem dX1_boxMeets_16 : decode cX1_boxMeets 16 = .ok (.if_icmp .lt 26, 3) := by decide +kernel
theorem dX1_boxMeets_19 : decode cX1_boxMeets 19 = .ok (.aload_n 0, 1) := by decide +kernel
theorem dX1_boxMeets_20 : decode cX1_boxMeets 20 = .ok (.iload_n 1, 1) := by decide +kernel
theorem dX1_boxMeets_21 : decode cX1_boxMeets 21 = .ok (.invokevirtual 47, 3) := by decide +kernel
theorem dX1_boxMeets_24 : decode cX1_boxMeets 24 = .ok (.iload 5, 2) := by decide +kernel
theorem dX1_boxMeets_26 : decode cX1_boxMeets 26 = .ok (.if_icmp .gt 16, 3) := by decide +kernel
theorem dX1_boxMeets_29 : decode cX1_boxMeets 29 = .ok (.aload_n 0, 1) := by decide +kernel
theorem dX1_boxMeets_30 : decode cX1_boxMeets 30 = .ok (.iload_n 1, 1) := by decide +kernel
theorem dX1_boxMeets_31 : decode cX1_boxMeets 31 = .ok (.invokevirtual 53, 3) := by decide +kernel
theorem dX1_boxMeets_34 : decode cX1_boxMeets 34 = .ok (.iload_n 3, 1) := by decide +kernel
theorem dX1_boxMeets_35 : decode cX1_boxMeets 35 = .ok (.if_icmp .lt 7, 3) := by decide +kernel
theorem dX1_boxMeets_38 : decode cX1_boxMeets 38 = .ok (.iconst 1, 1) := by decide +kernel
theorem dX1_boxMeets_39 : decode cX1_boxMeets 39 = .ok (.goto 4, 3) := by decide +kernel
theorem dX1_boxMeets_42 : decode cX1_boxMeets 42 = .ok (.iconst 0, 1) := by decide +kernel
theorem dX1_boxMeets_43 : decode cX1_boxMeets 43 = .ok (.ireturn, 1) := by decide +kernel
set_option maxRecDepth 20000 in
theorem ggX1_lineDivides_X1_sideOf : GoodIn wsX1_lineDivides wsX1_sideOf := goodIn_r _ [14, 2, 1, 15, 16, 17, 13, 18, 19, 20, 21, 22, 23, 24, 25] (by decide +kernel) (by decide +kernel)
set_option maxRecDepth 20000 in
theorem gX1_lineDivides_X1_sideOf : GoodIn wsX1_lineDivides (wsV RX1 64 RX1 yX1_sideOf wsX1_sideOf) := goodIn_app (goodIn_of _ (by decide +kernel)) ggX1_lineDivides_X1_sideOf
theorem dX1_lineDivides_0 : decode cX1_lineDivides 0 = .ok (.aload_n 0, 1) := by decide +kernel
theorem dX1_lineDivides_1 : decode cX1_lineDivides 1 = .ok (.iload_n 1, 1) := by decide +kernel
theorem dX1_lineDivides_2 : decode cX1_lineDivides 2 = .ok (.aload_n 2, 1) := by decide +kernel
theorem dX1_lineDivides_3 : decode cX1_lineDivides 3 = .ok (.getfield 9, 3) := by decide +kernel
theorem dX1_lineDivides_6 : decode cX1_lineDivides 6 = .ok (.iload_n 3, 1) := by decide +kernel
theorem dX1_lineDivides_7 : decode cX1_lineDivides 7 = .ok (.iaload, 1) := by decide +kernel
theorem dX1_lineDivides_8 : decode cX1_lineDivides 8 = .ok (.aload_n 2, 1) := by decide +kernel
theorem dX1_lineDivides_9 : decode cX1_lineDivides 9 = .ok (.getfield 15, 3) := by decide +kernel
theorem dX1_lineDivides_12 : decode cX1_lineDivides 12 = .ok (.iload_n 3, 1) := by decide +kernel
theorem dX1_lineDivides_13 : decode cX1_lineDivides 13 = .ok (.iaload, 1) := by decide +kernel
theorem dX1_lineDivides_14 : decode cX1_lineDivides 14 = .ok (.invokevirtual 64, 3) := by decide +kernel
theorem dX1_lineDivides_17 : decode cX1_lineDivides 17 = .ok (.istore 4, 2) := by decide +kernel
theorem dX1_lineDivides_19 : decode cX1_lineDivides 19 = .ok (.aload_n 0, 1) := by decide +kernel
theorem dX1_lineDivides_20 : decode cX1_lineDivides 20 = .ok (.iload_n 1, 1) := by decide +kernel
theorem dX1_lineDivides_21 : decode cX1_lineDivides 21 = .ok (.aload_n 2, 1) := by decide +kernel
theorem dX1_lineDivides_22 : decode cX1_lineDivides 22 = .ok (.getfield 9, 3) := by decide +kernel
theorem dX1_lineDivides_25 : decode cX1_lineDivides 25 = .ok (.iload_n 3, 1) := by decide +kernel
theorem dX1_lineDivides_26 : decode cX1_lineDivides 26 = .ok (.iconst 1, 1) := by decide +kernel
theorem dX1_lineDivides_27 : decode cX1_lineDivides 27 = .ok (.iadd, 1) := by decide +kernel
theorem dX1_lineDivides_28 : decode cX1_lineDivides 28 = .ok (.iaload, 1) := by decide +kernel
theorem dX1_lineDivides_29 : decode cX1_lineDivides 29 = .ok (.aload_n 2, 1) := by decide +kernel
theorem dX1_lineDivides_30 : decode cX1_lineDivides 30 = .ok (.getfield 15, 3) := by decide +kernel
theorem dX1_lineDivides_33 : decode cX1_lineDivides 33 = .ok (.iload_n 3, 1) := by decide +kernel
theorem dX1_lineDivides_34 : decode cX1_lineDivides 34 = .ok (.iconst 1, 1) := by decide +kernel
theorem dX1_lineDivides_35 : decode cX1_lineDivides 35 = .ok (.iadd, 1) := by decide +kernel
theorem dX1_lineDivides_36 : decode cX1_lineDivides 36 = .ok (.iaload, 1) := by decide +kernel
theorem dX1_lineDivides_37 : decode cX1_lineDivides 37 = .ok (.invokevirtual 64, 3) := by decide +kernel
theorem dX1_lineDivides_40 : decode cX1_lineDivides 40 = .ok (.istore 5, 2) := by decide +kernel
theorem dX1_lineDivides_42 : decode cX1_lineDivides 42 = .ok (.iload 4, 2) := by decide +kernel
theorem dX1_lineDivides_44 : decode cX1_lineDivides 44 = .ok (.iload 5, 2) := by decide +kernel
theorem dX1_lineDivides_46 : decode cX1_lineDivides 46 = .ok (.invokestatic 35, 3) := by decide +kernel
theorem dX1_lineDivides_49 : decode cX1_lineDivides 49 = .ok (.ifCond .gt 17, 3) := by decide +kernel
theorem dX1_lineDivides_52 : decode cX1_lineDivides 52 = .ok (.iload 4, 2) := by decide +kernel
theorem dX1_lineDivides_54 : decode cX1_lineDivides 54 = .ok (.iload 5, 2) := by decide +kernel
theorem dX1_lineDivides_56 : decode cX1_lineDivides 56 = .ok (.invokestatic 41, 3) := by decide +kernel
theorem dX1_lineDivides_59 : decode cX1_lineDivides 59 = .ok (.ifCond .lt 7, 3) := by decide +kernel
theorem dX1_lineDivides_62 : decode cX1_lineDivides 62 = .ok (.iconst 1, 1) := by decide +kernel
theorem dX1_lineDivides_63 : decode cX1_lineDivides 63 = .ok (.goto 4, 3) := by decide +kernel
theorem dX1_lineDivides_66 : decode cX1_lineDivides 66 = .ok (.iconst 0, 1) := by decide +kernel
theorem dX1_lineDivides_67 : decode cX1_lineDivides 67 = .ok (.ireturn, 1) := by decide +kernel
set_option maxRecDepth 20000 in
theorem ggX1_pieceIsSteepTo_X1_width : GoodIn wsX1_pieceIsSteepTo wsX1_width := goodIn_r _ [9, 10, 16, 17, 18] (by decide +kernel) (by decide +kernel)
set_option maxRecDepth 20000 in
theorem gX1_pieceIsSteepTo_X1_width : GoodIn wsX1_pieceIsSteepTo (wsV RX1 28 RX1 yX1_width wsX1_width) := goodIn_app (goodIn_of _ (by decide +kernel)) ggX1_pieceIsSteepTo_X1_width
set_option maxRecDepth 20000 in
theorem ggX1_pieceIsSteepTo_X1_height : GoodIn wsX1_pieceIsSteepTo wsX1_height := goodIn_r _ [14, 15, 16, 17, 18] (by decide +kernel) (by decide +kernel)
set_option maxRecDepth 20000 in
theorem gX1_pieceIsSteepTo_X1_height : GoodIn wsX1_pieceIsSteepTo (wsV RX1 32 RX1 yX1_height wsX1_height) := goodIn_app (goodIn_of _ (by decide +kernel)) ggX1_pieceIsSteepTo_X1_height
theorem dX1_pieceIsSteepTo_0 : decode cX1_pieceIsSteepTo 0 = .ok (.aload_n 0, 1) := by decide +kernel
theorem dX1_pieceIsSteepTo_1 : decode cX1_pieceIsSteepTo 1 = .ok (.iload_n 1, 1) := by decide +kernel
theorem dX1_pieceIsSteepTo_2 : decode cX1_pieceIsSteepTo 2 = .ok (.invokevirtual 28, 3) := by decide +kernel
theorem dX1_pieceIsSteepTo_5 : decode cX1_pieceIsSteepTo 5 = .ok (.istore 4, 2) := by decide +kernel
theorem dX1_pieceIsSteepTo_7 : decode cX1_pieceIsSteepTo 7 = .ok (.aload_n 0, 1) := by decide +kernel
theorem dX1_pieceIsSteepTo_8 : decode cX1_pieceIsSteepTo 8 = .ok (.iload_n 1, 1) := by decide +kernel
theorem dX1_pieceIsSteepTo_9 : decode cX1_pieceIsSteepTo 9 = .ok (.invokevirtual 32, 3) := by decide +kernel
theorem dX1_pieceIsSteepTo_12 : decode cX1_pieceIsSteepTo 12 = .ok (.istore 5, 2) := by decide +kernel
theorem dX1_pieceIsSteepTo_14 : decode cX1_pieceIsSteepTo 14 = .ok (.aload_n 2, 1) := by decide +kernel
theorem dX1_pieceIsSteepTo_15 : decode cX1_pieceIsSteepTo 15 = .ok (.iload_n 3, 1) := by decide +kernel
theorem dX1_pieceIsSteepTo_16 : decode cX1_pieceIsSteepTo 16 = .ok (.invokevirtual 28, 3) := by decide +kernel
theorem dX1_pieceIsSteepTo_19 : decode cX1_pieceIsSteepTo 19 = .ok (.istore 6, 2) := by decide +kernel
theorem dX1_pieceIsSteepTo_21 : decode cX1_pieceIsSteepTo 21 = .ok (.aload_n 2, 1) := by decide +kernel
theorem dX1_pieceIsSteepTo_22 : decode cX1_pieceIsSteepTo 22 = .ok (.iload_n 3, 1) := by decide +kernel
theorem dX1_pieceIsSteepTo_23 : decode cX1_pieceIsSteepTo 23 = .ok (.invokevirtual 32, 3) := by decide +kernel
theorem dX1_pieceIsSteepTo_26 : decode cX1_pieceIsSteepTo 26 = .ok (.istore 7, 2) := by decide +kernel
theorem dX1_pieceIsSteepTo_28 : decode cX1_pieceIsSteepTo 28 = .ok (.iload 4, 2) := by decide +kernel
theorem dX1_pieceIsSteepTo_30 : decode cX1_pieceIsSteepTo 30 = .ok (.iload 6, 2) := by decide +kernel
theorem dX1_pieceIsSteepTo_32 : decode cX1_pieceIsSteepTo 32 = .ok (.imul, 1) := by decide +kernel
theorem dX1_pieceIsSteepTo_33 : decode cX1_pieceIsSteepTo 33 = .ok (.iload 5, 2) := by decide +kernel
theorem dX1_pieceIsSteepTo_35 : decode cX1_pieceIsSteepTo 35 = .ok (.iload 7, 2) := by decide +kernel
theorem dX1_pieceIsSteepTo_37 : decode cX1_pieceIsSteepTo 37 = .ok (.imul, 1) := by decide +kernel
theorem dX1_pieceIsSteepTo_38 : decode cX1_pieceIsSteepTo 38 = .ok (.iadd, 1) := by decide +kernel
theorem dX1_pieceIsSteepTo_39 : decode cX1_pieceIsSteepTo 39 = .ok (.invokestatic 68, 3) := by decide +kernel
theorem dX1_pieceIsSteepTo_42 : decode cX1_pieceIsSteepTo 42 = .ok (.iload 4, 2) := by decide +kernel
theorem dX1_pieceIsSteepTo_44 : decode cX1_pieceIsSteepTo 44 = .ok (.iload 7, 2) := by decide +kernel
theorem dX1_pieceIsSteepTo_46 : decode cX1_pieceIsSteepTo 46 = .ok (.imul, 1) := by decide +kernel
theorem dX1_pieceIsSteepTo_47 : decode cX1_pieceIsSteepTo 47 = .ok (.iload 5, 2) := by decide +kernel
theorem dX1_pieceIsSteepTo_49 : decode cX1_pieceIsSteepTo 49 = .ok (.iload 6, 2) := by decide +kernel
theorem dX1_pieceIsSteepTo_51 : decode cX1_pieceIsSteepTo 51 = .ok (.imul, 1) := by decide +kernel
theorem dX1_pieceIsSteepTo_52 : decode cX1_pieceIsSteepTo 52 = .ok (.isub, 1) := by decide +kernel
theorem dX1_pieceIsSteepTo_53 : decode cX1_pieceIsSteepTo 53 = .ok (.invokestatic 68, 3) := by decide +kernel
theorem dX1_pieceIsSteepTo_56 : decode cX1_pieceIsSteepTo 56 = .ok (.if_icmp .gt 7, 3) := by decide +kernel
theorem dX1_pieceIsSteepTo_59 : decode cX1_pieceIsSteepTo 59 = .ok (.iconst 1, 1) := by decide +kernel
theorem dX1_pieceIsSteepTo_60 : decode cX1_pieceIsSteepTo 60 = .ok (.goto 4, 3) := by decide +kernel
theorem dX1_pieceIsSteepTo_63 : decode cX1_pieceIsSteepTo 63 = .ok (.iconst 0, 1) := by decide +kernel
theorem dX1_pieceIsSteepTo_64 : decode cX1_pieceIsSteepTo 64 = .ok (.ireturn, 1) := by decide +kernel
set_option maxRecDepth 20000 in
theorem ggX1_pieceMeets_X1_boxMeets : GoodIn wsX1_pieceMeets wsX1_boxMeets := goodIn_r _ [5, 6, 7, 8, 4, 9, 10, 11, 12, 13, 14, 15, 16, 17, 18, 19, 20, 21, 22, 23, 24, 25, 26, 27, 28, 29, 30, 56, 57, 58] (by decide +kernel) (by decide +kernel)
set_option maxRecDepth 20000 in
theorem gX1_pieceMeets_X1_boxMeets : GoodIn wsX1_pieceMeets (wsV RX1 56 RX1 yX1_boxMeets wsX1_boxMeets) := goodIn_app (goodIn_of _ (by decide +kernel)) ggX1_pieceMeets_X1_boxMeets
set_option maxRecDepth 20000 in
theorem ggX1_pieceMeets_X1_lineMeets : GoodIn wsX1_pieceMeets wsX1_lineMeets := goodIn_r _ [34, 11, 12, 13, 14, 19, 20, 21, 35, 36, 37, 4, 38, 26, 10, 39, 40, 41, 42, 43, 44, 45, 46, 47, 48, 49, 50, 51, 52, 53, 54, 55, 56, 57, 58] (by decide +kernel) (by decide +kernel)
set_option maxRecDepth 20000 in
theorem gX1_pieceMeets_X1_lineMeets : GoodIn wsX1_pieceMeets (wsV RX1 85 RX1 yX1_lineMeets wsX1_lineMeets) := goodIn_app (goodIn_of _ (by decide +kernel)) ggX1_pieceMeets_X1_lineMeets
theorem dX1_pieceMeets_0 : decode cX1_pieceMeets 0 = .ok (.aload_n 0, 1) := by decide +kernel
theorem dX1_pieceMeets_1 : decode cX1_pieceMeets 1 = .ok (.iload_n 1, 1) := by decide +kernel
theorem dX1_pieceMeets_2 : decode cX1_pieceMeets 2 = .ok (.aload_n 2, 1) := by decide +kernel
theorem dX1_pieceMeets_3 : decode cX1_pieceMeets 3 = .ok (.getfield 71, 3) := by decide +kernel
theorem dX1_pieceMeets_6 : decode cX1_pieceMeets 6 = .ok (.aload_n 2, 1) := by decide +kernel
theorem dX1_pieceMeets_7 : decode cX1_pieceMeets 7 = .ok (.getfield 76, 3) := by decide +kernel
theorem dX1_pieceMeets_10 : decode cX1_pieceMeets 10 = .ok (.aload_n 2, 1) := by decide +kernel
theorem dX1_pieceMeets_11 : decode cX1_pieceMeets 11 = .ok (.getfield 79, 3) := by decide +kernel
theorem dX1_pieceMeets_14 : decode cX1_pieceMeets 14 = .ok (.aload_n 2, 1) := by decide +kernel
theorem dX1_pieceMeets_15 : decode cX1_pieceMeets 15 = .ok (.getfield 82, 3) := by decide +kernel
theorem dX1_pieceMeets_18 : decode cX1_pieceMeets 18 = .ok (.invokevirtual 56, 3) := by decide +kernel
theorem dX1_pieceMeets_21 : decode cX1_pieceMeets 21 = .ok (.ifCond .eq 16, 3) := by decide +kernel
theorem dX1_pieceMeets_24 : decode cX1_pieceMeets 24 = .ok (.aload_n 0, 1) := by decide +kernel
theorem dX1_pieceMeets_25 : decode cX1_pieceMeets 25 = .ok (.iload_n 1, 1) := by decide +kernel
theorem dX1_pieceMeets_26 : decode cX1_pieceMeets 26 = .ok (.aload_n 2, 1) := by decide +kernel
theorem dX1_pieceMeets_27 : decode cX1_pieceMeets 27 = .ok (.invokevirtual 85, 3) := by decide +kernel
theorem dX1_pieceMeets_30 : decode cX1_pieceMeets 30 = .ok (.ifCond .eq 7, 3) := by decide +kernel
theorem dX1_pieceMeets_33 : decode cX1_pieceMeets 33 = .ok (.iconst 1, 1) := by decide +kernel
theorem dX1_pieceMeets_34 : decode cX1_pieceMeets 34 = .ok (.goto 4, 3) := by decide +kernel
theorem dX1_pieceMeets_37 : decode cX1_pieceMeets 37 = .ok (.iconst 0, 1) := by decide +kernel
theorem dX1_pieceMeets_38 : decode cX1_pieceMeets 38 = .ok (.ireturn, 1) := by decide +kernel
set_option maxRecDepth 20000 in
theorem ggX1_lineMeets_X1_sideOf : GoodIn wsX1_lineMeets wsX1_sideOf := goodIn_r _ [12, 13, 14, 15, 16, 17, 11, 18, 19, 20, 21, 22, 32, 33, 34] (by decide +kernel) (by decide +kernel)
set_option maxRecDepth 20000 in
theorem gX1_lineMeets_X1_sideOf : GoodIn wsX1_lineMeets (wsV RX1 64 RX1 yX1_sideOf wsX1_sideOf) := goodIn_app (goodIn_of _ (by decide +kernel)) ggX1_lineMeets_X1_sideOf
theorem dX1_lineMeets_0 : decode cX1_lineMeets 0 = .ok (.aload_n 0, 1) := by decide +kernel
theorem dX1_lineMeets_1 : decode cX1_lineMeets 1 = .ok (.iload_n 1, 1) := by decide +kernel
theorem dX1_lineMeets_2 : decode cX1_lineMeets 2 = .ok (.aload_n 2, 1) := by decide +kernel
theorem dX1_lineMeets_3 : decode cX1_lineMeets 3 = .ok (.getfield 71, 3) := by decide +kernel
theorem dX1_lineMeets_6 : decode cX1_lineMeets 6 = .ok (.aload_n 2, 1) := by decide +kernel
theorem dX1_lineMeets_7 : decode cX1_lineMeets 7 = .ok (.getfield 76, 3) := by decide +kernel
theorem dX1_lineMeets_10 : decode cX1_lineMeets 10 = .ok (.invokevirtual 64, 3) := by decide +kernel
theorem dX1_lineMeets_13 : decode cX1_lineMeets 13 = .ok (.istore_n 3, 1) := by decide +kernel
theorem dX1_lineMeets_14 : decode cX1_lineMeets 14 = .ok (.aload_n 0, 1) := by decide +kernel
theorem dX1_lineMeets_15 : decode cX1_lineMeets 15 = .ok (.iload_n 1, 1) := by decide +kernel
theorem dX1_lineMeets_16 : decode cX1_lineMeets 16 = .ok (.aload_n 2, 1) := by decide +kernel
theorem dX1_lineMeets_17 : decode cX1_lineMeets 17 = .ok (.getfield 79, 3) := by decide +kernel
theorem dX1_lineMeets_20 : decode cX1_lineMeets 20 = .ok (.aload_n 2, 1) := by decide +kernel
theorem dX1_lineMeets_21 : decode cX1_lineMeets 21 = .ok (.getfield 76, 3) := by decide +kernel
theorem dX1_lineMeets_24 : decode cX1_lineMeets 24 = .ok (.invokevirtual 64, 3) := by decide +kernel
theorem dX1_lineMeets_27 : decode cX1_lineMeets 27 = .ok (.istore 4, 2) := by decide +kernel
theorem dX1_lineMeets_29 : decode cX1_lineMeets 29 = .ok (.aload_n 0, 1) := by decide +kernel
theorem dX1_lineMeets_30 : decode cX1_lineMeets 30 = .ok (.iload_n 1, 1) := by decide +kernel
theorem dX1_lineMeets_31 : decode cX1_lineMeets 31 = .ok (.aload_n 2, 1) := by decide +kernel
theorem dX1_lineMeets_32 : decode cX1_lineMeets 32 = .ok (.getfield 71, 3) := by decide +kernel
theorem dX1_lineMeets_35 : decode cX1_lineMeets 35 = .ok (.aload_n 2, 1) := by decide +kernel
theorem dX1_lineMeets_36 : decode cX1_lineMeets 36 = .ok (.getfield 82, 3) := by decide +kernel
theorem dX1_lineMeets_39 : decode cX1_lineMeets 39 = .ok (.invokevirtual 64, 3) := by decide +kernel
theorem dX1_lineMeets_42 : decode cX1_lineMeets 42 = .ok (.istore 5, 2) := by decide +kernel
theorem dX1_lineMeets_44 : decode cX1_lineMeets 44 = .ok (.aload_n 0, 1) := by decide +kernel
theorem dX1_lineMeets_45 : decode cX1_lineMeets 45 = .ok (.iload_n 1, 1) := by decide +kernel
theorem dX1_lineMeets_46 : decode cX1_lineMeets 46 = .ok (.aload_n 2, 1) := by decide +kernel
theorem dX1_lineMeets_47 : decode cX1_lineMeets 47 = .ok (.getfield 79, 3) := by decide +kernel
theorem dX1_lineMeets_50 : decode cX1_lineMeets 50 = .ok (.aload_n 2, 1) := by decide +kernel
theorem dX1_lineMeets_51 : decode cX1_lineMeets 51 = .ok (.getfield 82, 3) := by decide +kernel
theorem dX1_lineMeets_54 : decode cX1_lineMeets 54 = .ok (.invokevirtual 64, 3) := by decide +kernel
theorem dX1_lineMeets_57 : decode cX1_lineMeets 57 = .ok (.istore 6, 2) := by decide +kernel
theorem dX1_lineMeets_59 : decode cX1_lineMeets 59 = .ok (.iload_n 3, 1) := by decide +kernel
theorem dX1_lineMeets_60 : decode cX1_lineMeets 60 = .ok (.iload 4, 2) := by decide +kernel
theorem dX1_lineMeets_62 : decode cX1_lineMeets 62 = .ok (.invokestatic 35, 3) := by decide +kernel
theorem dX1_lineMeets_65 : decode cX1_lineMeets 65 = .ok (.iload 5, 2) := by decide +kernel
theorem dX1_lineMeets_67 : decode cX1_lineMeets 67 = .ok (.iload 6, 2) := by decide +kernel
theorem dX1_lineMeets_69 : decode cX1_lineMeets 69 = .ok (.invokestatic 35, 3) := by decide +kernel
theorem dX1_lineMeets_72 : decode cX1_lineMeets 72 = .ok (.invokestatic 35, 3) := by decide +kernel
theorem dX1_lineMeets_75 : decode cX1_lineMeets 75 = .ok (.ifCond .gt 26, 3) := by decide +kernel
theorem dX1_lineMeets_78 : decode cX1_lineMeets 78 = .ok (.iload_n 3, 1) := by decide +kernel
theorem dX1_lineMeets_79 : decode cX1_lineMeets 79 = .ok (.iload 4, 2) := by decide +kernel
theorem dX1_lineMeets_81 : decode cX1_lineMeets 81 = .ok (.invokestatic 41, 3) := by decide +kernel
theorem dX1_lineMeets_84 : decode cX1_lineMeets 84 = .ok (.iload 5, 2) := by decide +kernel
theorem dX1_lineMeets_86 : decode cX1_lineMeets 86 = .ok (.iload 6, 2) := by decide +kernel
theorem dX1_lineMeets_88 : decode cX1_lineMeets 88 = .ok (.invokestatic 41, 3) := by decide +kernel
theorem dX1_lineMeets_91 : decode cX1_lineMeets 91 = .ok (.invokestatic 41, 3) := by decide +kernel
theorem dX1_lineMeets_94 : decode cX1_lineMeets 94 = .ok (.ifCond .lt 7, 3) := by decide +kernel
theorem dX1_lineMeets_97 : decode cX1_lineMeets 97 = .ok (.iconst 1, 1) := by decide +kernel
theorem dX1_lineMeets_98 : decode cX1_lineMeets 98 = .ok (.goto 4, 3) := by decide +kernel
theorem dX1_lineMeets_101 : decode cX1_lineMeets 101 = .ok (.iconst 0, 1) := by decide +kernel
theorem dX1_lineMeets_102 : decode cX1_lineMeets 102 = .ok (.ireturn, 1) := by decide +kernel
theorem dJ13_bitCount_95d88_0 : decode cJ13_bitCount_95d88 0 = .ok (.lload_n 0, 1) := by decide +kernel
theorem dJ13_bitCount_95d88_1 : decode cJ13_bitCount_95d88 1 = .ok (.lload_n 0, 1) := by decide +kernel
theorem dJ13_bitCount_95d88_2 : decode cJ13_bitCount_95d88 2 = .ok (.iconst 1, 1) := by decide +kernel
theorem dJ13_bitCount_95d88_3 : decode cJ13_bitCount_95d88 3 = .ok (.lushr, 1) := by decide +kernel
theorem dJ13_bitCount_95d88_4 : decode cJ13_bitCount_95d88 4 = .ok (.ldc2_w 314, 3) := by decide +kernel
theorem dJ13_bitCount_95d88_7 : decode cJ13_bitCount_95d88 7 = .ok (.land, 1) := by decide +kernel
theorem dJ13_bitCount_95d88_8 : decode cJ13_bitCount_95d88 8 = .ok (.lsub, 1) := by decide +kernel
theorem dJ13_bitCount_95d88_9 : decode cJ13_bitCount_95d88 9 = .ok (.lstore_n 0, 1) := by decide +kernel
theorem dJ13_bitCount_95d88_10 : decode cJ13_bitCount_95d88 10 = .ok (.lload_n 0, 1) := by decide +kernel
theorem dJ13_bitCount_95d88_11 : decode cJ13_bitCount_95d88 11 = .ok (.ldc2_w 316, 3) := by decide +kernel
theorem dJ13_bitCount_95d88_14 : decode cJ13_bitCount_95d88 14 = .ok (.land, 1) := by decide +kernel
theorem dJ13_bitCount_95d88_15 : decode cJ13_bitCount_95d88 15 = .ok (.lload_n 0, 1) := by decide +kernel
theorem dJ13_bitCount_95d88_16 : decode cJ13_bitCount_95d88 16 = .ok (.iconst 2, 1) := by decide +kernel
theorem dJ13_bitCount_95d88_17 : decode cJ13_bitCount_95d88 17 = .ok (.lushr, 1) := by decide +kernel
theorem dJ13_bitCount_95d88_18 : decode cJ13_bitCount_95d88 18 = .ok (.ldc2_w 316, 3) := by decide +kernel
theorem dJ13_bitCount_95d88_21 : decode cJ13_bitCount_95d88 21 = .ok (.land, 1) := by decide +kernel
theorem dJ13_bitCount_95d88_22 : decode cJ13_bitCount_95d88 22 = .ok (.ladd, 1) := by decide +kernel
theorem dJ13_bitCount_95d88_23 : decode cJ13_bitCount_95d88 23 = .ok (.lstore_n 0, 1) := by decide +kernel
theorem dJ13_bitCount_95d88_24 : decode cJ13_bitCount_95d88 24 = .ok (.lload_n 0, 1) := by decide +kernel
theorem dJ13_bitCount_95d88_25 : decode cJ13_bitCount_95d88 25 = .ok (.lload_n 0, 1) := by decide +kernel
theorem dJ13_bitCount_95d88_26 : decode cJ13_bitCount_95d88 26 = .ok (.iconst 4, 1) := by decide +kernel
theorem dJ13_bitCount_95d88_27 : decode cJ13_bitCount_95d88 27 = .ok (.lushr, 1) := by decide +kernel
theorem dJ13_bitCount_95d88_28 : decode cJ13_bitCount_95d88 28 = .ok (.ladd, 1) := by decide +kernel
theorem dJ13_bitCount_95d88_29 : decode cJ13_bitCount_95d88 29 = .ok (.ldc2_w 318, 3) := by decide +kernel
theorem dJ13_bitCount_95d88_32 : decode cJ13_bitCount_95d88 32 = .ok (.land, 1) := by decide +kernel
theorem dJ13_bitCount_95d88_33 : decode cJ13_bitCount_95d88 33 = .ok (.lstore_n 0, 1) := by decide +kernel
theorem dJ13_bitCount_95d88_34 : decode cJ13_bitCount_95d88 34 = .ok (.lload_n 0, 1) := by decide +kernel
theorem dJ13_bitCount_95d88_35 : decode cJ13_bitCount_95d88 35 = .ok (.lload_n 0, 1) := by decide +kernel
theorem dJ13_bitCount_95d88_36 : decode cJ13_bitCount_95d88 36 = .ok (.bipush 8, 2) := by decide +kernel
theorem dJ13_bitCount_95d88_38 : decode cJ13_bitCount_95d88 38 = .ok (.lushr, 1) := by decide +kernel
theorem dJ13_bitCount_95d88_39 : decode cJ13_bitCount_95d88 39 = .ok (.ladd, 1) := by decide +kernel
theorem dJ13_bitCount_95d88_40 : decode cJ13_bitCount_95d88 40 = .ok (.lstore_n 0, 1) := by decide +kernel
theorem dJ13_bitCount_95d88_41 : decode cJ13_bitCount_95d88 41 = .ok (.lload_n 0, 1) := by decide +kernel
theorem dJ13_bitCount_95d88_42 : decode cJ13_bitCount_95d88 42 = .ok (.lload_n 0, 1) := by decide +kernel
theorem dJ13_bitCount_95d88_43 : decode cJ13_bitCount_95d88 43 = .ok (.bipush 16, 2) := by decide +kernel
theorem dJ13_bitCount_95d88_45 : decode cJ13_bitCount_95d88 45 = .ok (.lushr, 1) := by decide +kernel
theorem dJ13_bitCount_95d88_46 : decode cJ13_bitCount_95d88 46 = .ok (.ladd, 1) := by decide +kernel
theorem dJ13_bitCount_95d88_47 : decode cJ13_bitCount_95d88 47 = .ok (.lstore_n 0, 1) := by decide +kernel
theorem dJ13_bitCount_95d88_48 : decode cJ13_bitCount_95d88 48 = .ok (.lload_n 0, 1) := by decide +kernel
theorem dJ13_bitCount_95d88_49 : decode cJ13_bitCount_95d88 49 = .ok (.lload_n 0, 1) := by decide +kernel
theorem dJ13_bitCount_95d88_50 : decode cJ13_bitCount_95d88 50 = .ok (.bipush 32, 2) := by decide +kernel
theorem dJ13_bitCount_95d88_52 : decode cJ13_bitCount_95d88 52 = .ok (.lushr, 1) := by decide +kernel
theorem dJ13_bitCount_95d88_53 : decode cJ13_bitCount_95d88 53 = .ok (.ladd, 1) := by decide +kernel
theorem dJ13_bitCount_95d88_54 : decode cJ13_bitCount_95d88 54 = .ok (.lstore_n 0, 1) := by decide +kernel
theorem dJ13_bitCount_95d88_55 : decode cJ13_bitCount_95d88 55 = .ok (.lload_n 0, 1) := by decide +kernel
theorem dJ13_bitCount_95d88_56 : decode cJ13_bitCount_95d88 56 = .ok (.l2i, 1) := by decide +kernel
theorem dJ13_bitCount_95d88_57 : decode cJ13_bitCount_95d88 57 = .ok (.bipush 127, 2) := by decide +kernel
theorem dJ13_bitCount_95d88_59 : decode cJ13_bitCount_95d88 59 = .ok (.iand, 1) := by decide +kernel
theorem dJ13_bitCount_95d88_60 : decode cJ13_bitCount_95d88 60 = .ok (.ireturn, 1) := by decide +kernel
theorem dJ9_abs_0f7a4_0 : decode cJ9_abs_0f7a4 0 = .ok (.iload_n 0, 1) := by decide +kernel
theorem dJ9_abs_0f7a4_1 : decode cJ9_abs_0f7a4 1 = .ok (.ifCond .ge 8, 3) := by decide +kernel
theorem dJ9_abs_0f7a4_4 : decode cJ9_abs_0f7a4 4 = .ok (.iload_n 0, 1) := by decide +kernel
theorem dJ9_abs_0f7a4_5 : decode cJ9_abs_0f7a4 5 = .ok (.ineg, 1) := by decide +kernel
theorem dJ9_abs_0f7a4_6 : decode cJ9_abs_0f7a4 6 = .ok (.goto 4, 3) := by decide +kernel
theorem dJ9_abs_0f7a4_9 : decode cJ9_abs_0f7a4 9 = .ok (.iload_n 0, 1) := by decide +kernel
theorem dJ9_abs_0f7a4_10 : decode cJ9_abs_0f7a4 10 = .ok (.ireturn, 1) := by decide +kernel
theorem dJ9_max_7cf53_0 : decode cJ9_max_7cf53 0 = .ok (.iload_n 0, 1) := by decide +kernel
theorem dJ9_max_7cf53_1 : decode cJ9_max_7cf53 1 = .ok (.iload_n 1, 1) := by decide +kernel
theorem dJ9_max_7cf53_2 : decode cJ9_max_7cf53 2 = .ok (.if_icmp .lt 7, 3) := by decide +kernel
theorem dJ9_max_7cf53_5 : decode cJ9_max_7cf53 5 = .ok (.iload_n 0, 1) := by decide +kernel
theorem dJ9_max_7cf53_6 : decode cJ9_max_7cf53 6 = .ok (.goto 4, 3) := by decide +kernel
theorem dJ9_max_7cf53_9 : decode cJ9_max_7cf53 9 = .ok (.iload_n 1, 1) := by decide +kernel
theorem dJ9_max_7cf53_10 : decode cJ9_max_7cf53 10 = .ok (.ireturn, 1) := by decide +kernel
theorem dJ9_min_7cf53_0 : decode cJ9_min_7cf53 0 = .ok (.iload_n 0, 1) := by decide +kernel
theorem dJ9_min_7cf53_1 : decode cJ9_min_7cf53 1 = .ok (.iload_n 1, 1) := by decide +kernel
theorem dJ9_min_7cf53_2 : decode cJ9_min_7cf53 2 = .ok (.if_icmp .gt 7, 3) := by decide +kernel
theorem dJ9_min_7cf53_5 : decode cJ9_min_7cf53 5 = .ok (.iload_n 0, 1) := by decide +kernel
theorem dJ9_min_7cf53_6 : decode cJ9_min_7cf53 6 = .ok (.goto 4, 3) := by decide +kernel
theorem dJ9_min_7cf53_9 : decode cJ9_min_7cf53 9 = .ok (.iload_n 1, 1) := by decide +kernel
theorem dJ9_min_7cf53_10 : decode cJ9_min_7cf53 10 = .ok (.ireturn, 1) := by decide +kernel
abbrev vwCl : List vw_C := [(RX0, TX0, 9), (RX1, TX1, 3), (RX2, TX2, 9), (RX3, TX3, 22)]
