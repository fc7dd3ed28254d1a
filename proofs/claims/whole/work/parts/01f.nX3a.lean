theorem dX3_init_0 : decode cX3_init 0 = .ok (.aload_n 0, 1) := by decide +kernel
theorem dX3_init_1 : decode cX3_init 1 = .ok (.invokespecial 1, 3) := by decide +kernel
theorem dX3_init_4 : decode cX3_init 4 = .ok (.aload_n 0, 1) := by decide +kernel
theorem dX3_init_5 : decode cX3_init 5 = .ok (.bipush 8, 2) := by decide +kernel
theorem dX3_init_7 : decode cX3_init 7 = .ok (.newarray .int, 2) := by decide +kernel
theorem dX3_init_9 : decode cX3_init 9 = .ok (.putfield 7, 3) := by decide +kernel
theorem dX3_init_12 : decode cX3_init 12 = .ok (.aload_n 0, 1) := by decide +kernel
theorem dX3_init_13 : decode cX3_init 13 = .ok (.bipush 8, 2) := by decide +kernel
theorem dX3_init_15 : decode cX3_init 15 = .ok (.newarray .int, 2) := by decide +kernel
theorem dX3_init_17 : decode cX3_init 17 = .ok (.putfield 13, 3) := by decide +kernel
theorem dX3_init_20 : decode cX3_init 20 = .ok (.aload_n 0, 1) := by decide +kernel
theorem dX3_init_21 : decode cX3_init 21 = .ok (.bipush 8, 2) := by decide +kernel
theorem dX3_init_23 : decode cX3_init 23 = .ok (.newarray .int, 2) := by decide +kernel
theorem dX3_init_25 : decode cX3_init 25 = .ok (.putfield 16, 3) := by decide +kernel
theorem dX3_init_28 : decode cX3_init 28 = .ok (.aload_n 0, 1) := by decide +kernel
theorem dX3_init_29 : decode cX3_init 29 = .ok (.bipush 64, 2) := by decide +kernel
theorem dX3_init_31 : decode cX3_init 31 = .ok (.newarray .int, 2) := by decide +kernel
theorem dX3_init_33 : decode cX3_init 33 = .ok (.putfield 19, 3) := by decide +kernel
theorem dX3_init_36 : decode cX3_init 36 = .ok (.aload_n 0, 1) := by decide +kernel
theorem dX3_init_37 : decode cX3_init 37 = .ok (.bipush 64, 2) := by decide +kernel
theorem dX3_init_39 : decode cX3_init 39 = .ok (.newarray .int, 2) := by decide +kernel
theorem dX3_init_41 : decode cX3_init 41 = .ok (.putfield 22, 3) := by decide +kernel
theorem dX3_init_44 : decode cX3_init 44 = .ok (.aload_n 0, 1) := by decide +kernel
theorem dX3_init_45 : decode cX3_init 45 = .ok (.bipush 64, 2) := by decide +kernel
theorem dX3_init_47 : decode cX3_init 47 = .ok (.newarray .boolean, 2) := by decide +kernel
theorem dX3_init_49 : decode cX3_init 49 = .ok (.putfield 25, 3) := by decide +kernel
theorem dX3_init_52 : decode cX3_init 52 = .ok (.aload_n 0, 1) := by decide +kernel
theorem dX3_init_53 : decode cX3_init 53 = .ok (.iconst 5, 1) := by decide +kernel
theorem dX3_init_54 : decode cX3_init 54 = .ok (.newarray .int, 2) := by decide +kernel
theorem dX3_init_56 : decode cX3_init 56 = .ok (.putfield 29, 3) := by decide +kernel
theorem dX3_init_59 : decode cX3_init 59 = .ok (.aload_n 0, 1) := by decide +kernel
theorem dX3_init_60 : decode cX3_init 60 = .ok (.iconst 5, 1) := by decide +kernel
theorem dX3_init_61 : decode cX3_init 61 = .ok (.newarray .int, 2) := by decide +kernel
theorem dX3_init_63 : decode cX3_init 63 = .ok (.putfield 32, 3) := by decide +kernel
theorem dX3_init_66 : decode cX3_init 66 = .ok (.aload_n 0, 1) := by decide +kernel
theorem dX3_init_67 : decode cX3_init 67 = .ok (.iconst 5, 1) := by decide +kernel
theorem dX3_init_68 : decode cX3_init 68 = .ok (.newarray .int, 2) := by decide +kernel
theorem dX3_init_70 : decode cX3_init 70 = .ok (.putfield 35, 3) := by decide +kernel
theorem dX3_init_73 : decode cX3_init 73 = .ok (.aload_n 0, 1) := by decide +kernel
theorem dX3_init_74 : decode cX3_init 74 = .ok (.iconst 5, 1) := by decide +kernel
theorem dX3_init_75 : decode cX3_init 75 = .ok (.newarray .int, 2) := by decide +kernel
theorem dX3_init_77 : decode cX3_init 77 = .ok (.putfield 38, 3) := by decide +kernel
theorem dX3_init_80 : decode cX3_init 80 = .ok (.aload_n 0, 1) := by decide +kernel
theorem dX3_init_81 : decode cX3_init 81 = .ok (.iconst 5, 1) := by decide +kernel
theorem dX3_init_82 : decode cX3_init 82 = .ok (.newarray .int, 2) := by decide +kernel
theorem dX3_init_84 : decode cX3_init 84 = .ok (.putfield 41, 3) := by decide +kernel
theorem dX3_init_87 : decode cX3_init 87 = .ok (.aload_n 0, 1) := by decide +kernel
theorem dX3_init_88 : decode cX3_init 88 = .ok (.iconst 5, 1) := by decide +kernel
theorem dX3_init_89 : decode cX3_init 89 = .ok (.newarray .int, 2) := by decide +kernel
theorem dX3_init_91 : decode cX3_init 91 = .ok (.putfield 44, 3) := by decide +kernel
theorem dX3_init_94 : decode cX3_init 94 = .ok (.aload_n 0, 1) := by decide +kernel
theorem dX3_init_95 : decode cX3_init 95 = .ok (.iconst 5, 1) := by decide +kernel
theorem dX3_init_96 : decode cX3_init 96 = .ok (.newarray .int, 2) := by decide +kernel
theorem dX3_init_98 : decode cX3_init 98 = .ok (.putfield 47, 3) := by decide +kernel
theorem dX3_init_101 : decode cX3_init 101 = .ok (.aload_n 0, 1) := by decide +kernel
theorem dX3_init_102 : decode cX3_init 102 = .ok (.iconst 5, 1) := by decide +kernel
theorem dX3_init_103 : decode cX3_init 103 = .ok (.newarray .int, 2) := by decide +kernel
theorem dX3_init_105 : decode cX3_init 105 = .ok (.putfield 50, 3) := by decide +kernel
theorem dX3_init_108 : decode cX3_init 108 = .ok (.aload_n 0, 1) := by decide +kernel
theorem dX3_init_109 : decode cX3_init 109 = .ok (.iconst 5, 1) := by decide +kernel
theorem dX3_init_110 : decode cX3_init 110 = .ok (.newarray .int, 2) := by decide +kernel
theorem dX3_init_112 : decode cX3_init 112 = .ok (.putfield 53, 3) := by decide +kernel
theorem dX3_init_115 : decode cX3_init 115 = .ok (.aload_n 0, 1) := by decide +kernel
theorem dX3_init_116 : decode cX3_init 116 = .ok (.bipush 64, 2) := by decide +kernel
theorem dX3_init_118 : decode cX3_init 118 = .ok (.newarray .boolean, 2) := by decide +kernel
theorem dX3_init_120 : decode cX3_init 120 = .ok (.putfield 56, 3) := by decide +kernel
theorem dX3_init_123 : decode cX3_init 123 = .ok (.aload_n 0, 1) := by decide +kernel
theorem dX3_init_124 : decode cX3_init 124 = .ok (.bipush 64, 2) := by decide +kernel
theorem dX3_init_126 : decode cX3_init 126 = .ok (.newarray .int, 2) := by decide +kernel
theorem dX3_init_128 : decode cX3_init 128 = .ok (.putfield 59, 3) := by decide +kernel
theorem dX3_init_131 : decode cX3_init 131 = .ok (.return_, 1) := by decide +kernel
theorem dX3_thrown_0 : decode cX3_thrown 0 = .ok (.aload_n 0, 1) := by decide +kernel
theorem dX3_thrown_1 : decode cX3_thrown 1 = .ok (.getfield 62, 3) := by decide +kernel
theorem dX3_thrown_4 : decode cX3_thrown 4 = .ok (.ireturn, 1) := by decide +kernel
theorem dX3_holds_0 : decode cX3_holds 0 = .ok (.aload_n 0, 1) := by decide +kernel
theorem dX3_holds_1 : decode cX3_holds 1 = .ok (.iload_n 1, 1) := by decide +kernel
theorem dX3_holds_2 : decode cX3_holds 2 = .ok (.putfield 62, 3) := by decide +kernel
theorem dX3_holds_5 : decode cX3_holds 5 = .ok (.iload_n 1, 1) := by decide +kernel
theorem dX3_holds_6 : decode cX3_holds 6 = .ok (.ifCond .ne 7, 3) := by decide +kernel
theorem dX3_holds_9 : decode cX3_holds 9 = .ok (.iconst 1, 1) := by decide +kernel
theorem dX3_holds_10 : decode cX3_holds 10 = .ok (.goto 4, 3) := by decide +kernel
theorem dX3_holds_13 : decode cX3_holds 13 = .ok (.iconst 0, 1) := by decide +kernel
theorem dX3_holds_14 : decode cX3_holds 14 = .ok (.ireturn, 1) := by decide +kernel
theorem dX3_in_0 : decode cX3_in 0 = .ok (.iload_n 0, 1) := by decide +kernel
theorem dX3_in_1 : decode cX3_in 1 = .ok (.iload_n 1, 1) := by decide +kernel
theorem dX3_in_2 : decode cX3_in 2 = .ok (.if_icmp .lt 12, 3) := by decide +kernel
theorem dX3_in_5 : decode cX3_in 5 = .ok (.iload_n 0, 1) := by decide +kernel
theorem dX3_in_6 : decode cX3_in 6 = .ok (.iload_n 2, 1) := by decide +kernel
theorem dX3_in_7 : decode cX3_in 7 = .ok (.if_icmp .gt 7, 3) := by decide +kernel
theorem dX3_in_10 : decode cX3_in 10 = .ok (.iconst 1, 1) := by decide +kernel
theorem dX3_in_11 : decode cX3_in 11 = .ok (.goto 4, 3) := by decide +kernel
theorem dX3_in_14 : decode cX3_in 14 = .ok (.iconst 0, 1) := by decide +kernel
theorem dX3_in_15 : decode cX3_in 15 = .ok (.ireturn, 1) := by decide +kernel
set_option maxRecDepth 20000 in
theorem ggX3_isPlace_X3_in : GoodIn wsX3_isPlace wsX3_in := goodIn_r _ [4] (by decide +kernel) (by decide +kernel)
set_option maxRecDepth 20000 in
theorem gX3_isPlace_X3_in : GoodIn wsX3_isPlace (va_wsS RX3 66 yX3_in wsX3_in) := goodIn_app (goodIn_of _ (by decide +kernel)) ggX3_isPlace_X3_in
theorem dX3_isPlace_0 : decode cX3_isPlace 0 = .ok (.iload_n 0, 1) := by decide +kernel
theorem dX3_isPlace_1 : decode cX3_isPlace 1 = .ok (.iconst 0, 1) := by decide +kernel
theorem dX3_isPlace_2 : decode cX3_isPlace 2 = .ok (.bipush 99, 2) := by decide +kernel
theorem dX3_isPlace_4 : decode cX3_isPlace 4 = .ok (.invokestatic 66, 3) := by decide +kernel
theorem dX3_isPlace_7 : decode cX3_isPlace 7 = .ok (.ifCond .eq 17, 3) := by decide +kernel
theorem dX3_isPlace_10 : decode cX3_isPlace 10 = .ok (.iload_n 1, 1) := by decide +kernel
theorem dX3_isPlace_11 : decode cX3_isPlace 11 = .ok (.iconst 0, 1) := by decide +kernel
theorem dX3_isPlace_12 : decode cX3_isPlace 12 = .ok (.bipush 99, 2) := by decide +kernel
theorem dX3_isPlace_14 : decode cX3_isPlace 14 = .ok (.invokestatic 66, 3) := by decide +kernel
theorem dX3_isPlace_17 : decode cX3_isPlace 17 = .ok (.ifCond .eq 7, 3) := by decide +kernel
theorem dX3_isPlace_20 : decode cX3_isPlace 20 = .ok (.iconst 1, 1) := by decide +kernel
theorem dX3_isPlace_21 : decode cX3_isPlace 21 = .ok (.goto 4, 3) := by decide +kernel
theorem dX3_isPlace_24 : decode cX3_isPlace 24 = .ok (.iconst 0, 1) := by decide +kernel
theorem dX3_isPlace_25 : decode cX3_isPlace 25 = .ok (.ireturn, 1) := by decide +kernel
set_option maxRecDepth 20000 in
theorem ggX3_isCable_X3_in : GoodIn wsX3_isCable wsX3_in := goodIn_r _ [5] (by decide +kernel) (by decide +kernel)
set_option maxRecDepth 20000 in
theorem gX3_isCable_X3_in : GoodIn wsX3_isCable (va_wsS RX3 66 yX3_in wsX3_in) := goodIn_app (goodIn_of _ (by decide +kernel)) ggX3_isCable_X3_in
theorem dX3_isCable_0 : decode cX3_isCable 0 = .ok (.iload_n 1, 1) := by decide +kernel
theorem dX3_isCable_1 : decode cX3_isCable 1 = .ok (.iconst 0, 1) := by decide +kernel
theorem dX3_isCable_2 : decode cX3_isCable 2 = .ok (.aload_n 0, 1) := by decide +kernel
theorem dX3_isCable_3 : decode cX3_isCable 3 = .ok (.getfield 70, 3) := by decide +kernel
theorem dX3_isCable_6 : decode cX3_isCable 6 = .ok (.iconst 1, 1) := by decide +kernel
theorem dX3_isCable_7 : decode cX3_isCable 7 = .ok (.isub, 1) := by decide +kernel
theorem dX3_isCable_8 : decode cX3_isCable 8 = .ok (.invokestatic 66, 3) := by decide +kernel
theorem dX3_isCable_11 : decode cX3_isCable 11 = .ok (.ireturn, 1) := by decide +kernel
set_option maxRecDepth 20000 in
theorem ggX3_areCables_X3_isCable : GoodIn wsX3_areCables wsX3_isCable := goodIn_r _ [5, 6, 7, 8, 4, 9, 10, 11, 12, 13, 14, 15, 16, 17, 18, 19, 20, 21, 22, 23, 24, 25, 26, 27, 28, 29, 30, 31] (by decide +kernel) (by decide +kernel)
set_option maxRecDepth 20000 in
theorem gX3_areCables_X3_isCable : GoodIn wsX3_areCables (wsV RX3 73 RX3 yX3_isCable wsX3_isCable) := goodIn_app (goodIn_of _ (by decide +kernel)) ggX3_areCables_X3_isCable
theorem dX3_areCables_0 : decode cX3_areCables 0 = .ok (.aload_n 0, 1) := by decide +kernel
theorem dX3_areCables_1 : decode cX3_areCables 1 = .ok (.iload_n 1, 1) := by decide +kernel
theorem dX3_areCables_2 : decode cX3_areCables 2 = .ok (.invokevirtual 73, 3) := by decide +kernel
theorem dX3_areCables_5 : decode cX3_areCables 5 = .ok (.ifCond .eq 15, 3) := by decide +kernel
theorem dX3_areCables_8 : decode cX3_areCables 8 = .ok (.aload_n 0, 1) := by decide +kernel
theorem dX3_areCables_9 : decode cX3_areCables 9 = .ok (.iload_n 2, 1) := by decide +kernel
theorem dX3_areCables_10 : decode cX3_areCables 10 = .ok (.invokevirtual 73, 3) := by decide +kernel
theorem dX3_areCables_13 : decode cX3_areCables 13 = .ok (.ifCond .eq 7, 3) := by decide +kernel
theorem dX3_areCables_16 : decode cX3_areCables 16 = .ok (.iconst 1, 1) := by decide +kernel
theorem dX3_areCables_17 : decode cX3_areCables 17 = .ok (.goto 4, 3) := by decide +kernel
theorem dX3_areCables_20 : decode cX3_areCables 20 = .ok (.iconst 0, 1) := by decide +kernel
theorem dX3_areCables_21 : decode cX3_areCables 21 = .ok (.ireturn, 1) := by decide +kernel
set_option maxRecDepth 20000 in
theorem ggX3_isPoint_X3_isCable : GoodIn wsX3_isPoint wsX3_isCable := goodIn_r _ [6, 7, 8, 9, 5, 10, 11, 12, 13, 14, 15, 16, 17, 18, 19, 20, 21, 22, 23, 24, 25, 26, 27, 28, 29, 30, 31, 32] (by decide +kernel) (by decide +kernel)
set_option maxRecDepth 20000 in
theorem gX3_isPoint_X3_isCable : GoodIn wsX3_isPoint (wsV RX3 73 RX3 yX3_isCable wsX3_isCable) := goodIn_app (goodIn_of _ (by decide +kernel)) ggX3_isPoint_X3_isCable
set_option maxRecDepth 20000 in
theorem ggX3_isPoint_X3_in : GoodIn wsX3_isPoint wsX3_in := goodIn_r _ [10] (by decide +kernel) (by decide +kernel)
set_option maxRecDepth 20000 in
theorem gX3_isPoint_X3_in : GoodIn wsX3_isPoint (va_wsS RX3 66 yX3_in wsX3_in) := goodIn_app (goodIn_of _ (by decide +kernel)) ggX3_isPoint_X3_in
theorem dX3_isPoint_0 : decode cX3_isPoint 0 = .ok (.aload_n 0, 1) := by decide +kernel
theorem dX3_isPoint_1 : decode cX3_isPoint 1 = .ok (.iload_n 1, 1) := by decide +kernel
theorem dX3_isPoint_2 : decode cX3_isPoint 2 = .ok (.invokevirtual 73, 3) := by decide +kernel
theorem dX3_isPoint_5 : decode cX3_isPoint 5 = .ok (.ifCond .eq 23, 3) := by decide +kernel
theorem dX3_isPoint_8 : decode cX3_isPoint 8 = .ok (.iload_n 2, 1) := by decide +kernel
theorem dX3_isPoint_9 : decode cX3_isPoint 9 = .ok (.iconst 0, 1) := by decide +kernel
theorem dX3_isPoint_10 : decode cX3_isPoint 10 = .ok (.aload_n 0, 1) := by decide +kernel
theorem dX3_isPoint_11 : decode cX3_isPoint 11 = .ok (.getfield 16, 3) := by decide +kernel
theorem dX3_isPoint_14 : decode cX3_isPoint 14 = .ok (.iload_n 1, 1) := by decide +kernel
theorem dX3_isPoint_15 : decode cX3_isPoint 15 = .ok (.iaload, 1) := by decide +kernel
theorem dX3_isPoint_16 : decode cX3_isPoint 16 = .ok (.iconst 1, 1) := by decide +kernel
theorem dX3_isPoint_17 : decode cX3_isPoint 17 = .ok (.isub, 1) := by decide +kernel
theorem dX3_isPoint_18 : decode cX3_isPoint 18 = .ok (.invokestatic 66, 3) := by decide +kernel
theorem dX3_isPoint_21 : decode cX3_isPoint 21 = .ok (.ifCond .eq 7, 3) := by decide +kernel
theorem dX3_isPoint_24 : decode cX3_isPoint 24 = .ok (.iconst 1, 1) := by decide +kernel
theorem dX3_isPoint_25 : decode cX3_isPoint 25 = .ok (.goto 4, 3) := by decide +kernel
theorem dX3_isPoint_28 : decode cX3_isPoint 28 = .ok (.iconst 0, 1) := by decide +kernel
theorem dX3_isPoint_29 : decode cX3_isPoint 29 = .ok (.ireturn, 1) := by decide +kernel
set_option maxRecDepth 20000 in
theorem ggX3_isPiece_X3_isCable : GoodIn wsX3_isPiece wsX3_isCable := goodIn_r _ [6, 7, 8, 9, 5, 10, 11, 12, 13, 14, 15, 16, 17, 18, 19, 20, 21, 22, 23, 24, 25, 26, 27, 28, 29, 30, 31, 32] (by decide +kernel) (by decide +kernel)
set_option maxRecDepth 20000 in
theorem gX3_isPiece_X3_isCable : GoodIn wsX3_isPiece (wsV RX3 73 RX3 yX3_isCable wsX3_isCable) := goodIn_app (goodIn_of _ (by decide +kernel)) ggX3_isPiece_X3_isCable
set_option maxRecDepth 20000 in
theorem ggX3_isPiece_X3_in : GoodIn wsX3_isPiece wsX3_in := goodIn_r _ [10] (by decide +kernel) (by decide +kernel)
set_option maxRecDepth 20000 in
theorem gX3_isPiece_X3_in : GoodIn wsX3_isPiece (va_wsS RX3 66 yX3_in wsX3_in) := goodIn_app (goodIn_of _ (by decide +kernel)) ggX3_isPiece_X3_in
theorem dX3_isPiece_0 : decode cX3_isPiece 0 = .ok (.aload_n 0, 1) := by decide +kernel
theorem dX3_isPiece_1 : decode cX3_isPiece 1 = .ok (.iload_n 1, 1) := by decide +kernel
theorem dX3_isPiece_2 : decode cX3_isPiece 2 = .ok (.invokevirtual 73, 3) := by decide +kernel
theorem dX3_isPiece_5 : decode cX3_isPiece 5 = .ok (.ifCond .eq 23, 3) := by decide +kernel
theorem dX3_isPiece_8 : decode cX3_isPiece 8 = .ok (.iload_n 2, 1) := by decide +kernel
theorem dX3_isPiece_9 : decode cX3_isPiece 9 = .ok (.iconst 0, 1) := by decide +kernel
theorem dX3_isPiece_10 : decode cX3_isPiece 10 = .ok (.aload_n 0, 1) := by decide +kernel
theorem dX3_isPiece_11 : decode cX3_isPiece 11 = .ok (.getfield 16, 3) := by decide +kernel
theorem dX3_isPiece_14 : decode cX3_isPiece 14 = .ok (.iload_n 1, 1) := by decide +kernel
theorem dX3_isPiece_15 : decode cX3_isPiece 15 = .ok (.iaload, 1) := by decide +kernel
theorem dX3_isPiece_16 : decode cX3_isPiece 16 = .ok (.iconst 2, 1) := by decide +kernel
theorem dX3_isPiece_17 : decode cX3_isPiece 17 = .ok (.isub, 1) := by decide +kernel
theorem dX3_isPiece_18 : decode cX3_isPiece 18 = .ok (.invokestatic 66, 3) := by decide +kernel
theorem dX3_isPiece_21 : decode cX3_isPiece 21 = .ok (.ifCond .eq 7, 3) := by decide +kernel
theorem dX3_isPiece_24 : decode cX3_isPiece 24 = .ok (.iconst 1, 1) := by decide +kernel
theorem dX3_isPiece_25 : decode cX3_isPiece 25 = .ok (.goto 4, 3) := by decide +kernel
theorem dX3_isPiece_28 : decode cX3_isPiece 28 = .ok (.iconst 0, 1) := by decide +kernel
theorem dX3_isPiece_29 : decode cX3_isPiece 29 = .ok (.ireturn, 1) := by decide +kernel
set_option maxRecDepth 20000 in
theorem ggX3_draft_X3_isPlace : GoodIn wsX3_draft wsX3_isPlace := goodIn_r _ [7, 8, 9, 6, 10] (by decide +kernel) (by decide +kernel)
set_option maxRecDepth 20000 in
theorem gX3_draft_X3_isPlace : GoodIn wsX3_draft (va_wsS RX3 80 yX3_isPlace wsX3_isPlace) := goodIn_app (goodIn_of _ (by decide +kernel)) ggX3_draft_X3_isPlace
set_option maxRecDepth 20000 in
theorem ggX3_draft_X3_holds : GoodIn wsX3_draft wsX3_holds := goodIn_r _ [14, 15, 16, 17, 18, 19, 20, 21, 22, 23, 24, 25, 26, 27, 28, 29, 30, 31, 32, 33, 34, 35, 36, 37] (by decide +kernel) (by decide +kernel)
set_option maxRecDepth 20000 in
theorem gX3_draft_X3_holds : GoodIn wsX3_draft (wsV RX3 84 RX3 yX3_holds wsX3_holds) := goodIn_app (goodIn_of _ (by decide +kernel)) ggX3_draft_X3_holds
theorem dX3_draft_0 : decode cX3_draft 0 = .ok (.aload_n 0, 1) := by decide +kernel
theorem dX3_draft_1 : decode cX3_draft 1 = .ok (.getfield 77, 3) := by decide +kernel
theorem dX3_draft_4 : decode cX3_draft 4 = .ok (.ifCond .le 37, 3) := by decide +kernel
theorem dX3_draft_7 : decode cX3_draft 7 = .ok (.aload_n 0, 1) := by decide +kernel
theorem dX3_draft_8 : decode cX3_draft 8 = .ok (.getfield 7, 3) := by decide +kernel
theorem dX3_draft_11 : decode cX3_draft 11 = .ok (.aload_n 0, 1) := by decide +kernel
theorem dX3_draft_12 : decode cX3_draft 12 = .ok (.getfield 77, 3) := by decide +kernel
theorem dX3_draft_15 : decode cX3_draft 15 = .ok (.iconst 1, 1) := by decide +kernel
theorem dX3_draft_16 : decode cX3_draft 16 = .ok (.isub, 1) := by decide +kernel
theorem dX3_draft_17 : decode cX3_draft 17 = .ok (.iaload, 1) := by decide +kernel
theorem dX3_draft_18 : decode cX3_draft 18 = .ok (.iload_n 1, 1) := by decide +kernel
theorem dX3_draft_19 : decode cX3_draft 19 = .ok (.if_icmp .ne 22, 3) := by decide +kernel
theorem dX3_draft_22 : decode cX3_draft 22 = .ok (.aload_n 0, 1) := by decide +kernel
theorem dX3_draft_23 : decode cX3_draft 23 = .ok (.getfield 13, 3) := by decide +kernel
theorem dX3_draft_26 : decode cX3_draft 26 = .ok (.aload_n 0, 1) := by decide +kernel
theorem dX3_draft_27 : decode cX3_draft 27 = .ok (.getfield 77, 3) := by decide +kernel
theorem dX3_draft_30 : decode cX3_draft 30 = .ok (.iconst 1, 1) := by decide +kernel
theorem dX3_draft_31 : decode cX3_draft 31 = .ok (.isub, 1) := by decide +kernel
theorem dX3_draft_32 : decode cX3_draft 32 = .ok (.iaload, 1) := by decide +kernel
theorem dX3_draft_33 : decode cX3_draft 33 = .ok (.iload_n 2, 1) := by decide +kernel
theorem dX3_draft_34 : decode cX3_draft 34 = .ok (.if_icmp .ne 7, 3) := by decide +kernel
theorem dX3_draft_37 : decode cX3_draft 37 = .ok (.iconst 1, 1) := by decide +kernel
theorem dX3_draft_38 : decode cX3_draft 38 = .ok (.goto 4, 3) := by decide +kernel
theorem dX3_draft_41 : decode cX3_draft 41 = .ok (.iconst 0, 1) := by decide +kernel
theorem dX3_draft_42 : decode cX3_draft 42 = .ok (.istore_n 3, 1) := by decide +kernel
theorem dX3_draft_43 : decode cX3_draft 43 = .ok (.aload_n 0, 1) := by decide +kernel
theorem dX3_draft_44 : decode cX3_draft 44 = .ok (.iload_n 1, 1) := by decide +kernel
theorem dX3_draft_45 : decode cX3_draft 45 = .ok (.iload_n 2, 1) := by decide +kernel
theorem dX3_draft_46 : decode cX3_draft 46 = .ok (.invokestatic 80, 3) := by decide +kernel
theorem dX3_draft_49 : decode cX3_draft 49 = .ok (.ifCond .ne 7, 3) := by decide +kernel
theorem dX3_draft_52 : decode cX3_draft 52 = .ok (.iconst 1, 1) := by decide +kernel
theorem dX3_draft_53 : decode cX3_draft 53 = .ok (.goto 21, 3) := by decide +kernel
theorem dX3_draft_56 : decode cX3_draft 56 = .ok (.aload_n 0, 1) := by decide +kernel
theorem dX3_draft_57 : decode cX3_draft 57 = .ok (.getfield 77, 3) := by decide +kernel
theorem dX3_draft_60 : decode cX3_draft 60 = .ok (.bipush 8, 2) := by decide +kernel
theorem dX3_draft_62 : decode cX3_draft 62 = .ok (.if_icmp .eq 7, 3) := by decide +kernel
theorem dX3_draft_65 : decode cX3_draft 65 = .ok (.iload_n 3, 1) := by decide +kernel
theorem dX3_draft_66 : decode cX3_draft 66 = .ok (.ifCond .eq 7, 3) := by decide +kernel
theorem dX3_draft_69 : decode cX3_draft 69 = .ok (.iconst 2, 1) := by decide +kernel
theorem dX3_draft_70 : decode cX3_draft 70 = .ok (.goto 4, 3) := by decide +kernel
theorem dX3_draft_73 : decode cX3_draft 73 = .ok (.iconst 0, 1) := by decide +kernel
theorem dX3_draft_74 : decode cX3_draft 74 = .ok (.invokevirtual 84, 3) := by decide +kernel
theorem dX3_draft_77 : decode cX3_draft 77 = .ok (.ifCond .ne 5, 3) := by decide +kernel
theorem dX3_draft_80 : decode cX3_draft 80 = .ok (.iconst 0, 1) := by decide +kernel
theorem dX3_draft_81 : decode cX3_draft 81 = .ok (.ireturn, 1) := by decide +kernel
theorem dX3_draft_82 : decode cX3_draft 82 = .ok (.aload_n 0, 1) := by decide +kernel
theorem dX3_draft_83 : decode cX3_draft 83 = .ok (.getfield 7, 3) := by decide +kernel
theorem dX3_draft_86 : decode cX3_draft 86 = .ok (.aload_n 0, 1) := by decide +kernel
theorem dX3_draft_87 : decode cX3_draft 87 = .ok (.getfield 77, 3) := by decide +kernel
theorem dX3_draft_90 : decode cX3_draft 90 = .ok (.iload_n 1, 1) := by decide +kernel
theorem dX3_draft_91 : decode cX3_draft 91 = .ok (.iastore, 1) := by decide +kernel
theorem dX3_draft_92 : decode cX3_draft 92 = .ok (.aload_n 0, 1) := by decide +kernel
theorem dX3_draft_93 : decode cX3_draft 93 = .ok (.getfield 13, 3) := by decide +kernel
theorem dX3_draft_96 : decode cX3_draft 96 = .ok (.aload_n 0, 1) := by decide +kernel
theorem dX3_draft_97 : decode cX3_draft 97 = .ok (.getfield 77, 3) := by decide +kernel
theorem dX3_draft_100 : decode cX3_draft 100 = .ok (.iload_n 2, 1) := by decide +kernel
theorem dX3_draft_101 : decode cX3_draft 101 = .ok (.iastore, 1) := by decide +kernel
theorem dX3_draft_102 : decode cX3_draft 102 = .ok (.aload_n 0, 1) := by decide +kernel
theorem dX3_draft_103 : decode cX3_draft 103 = .ok (.dup, 1) := by decide +kernel
theorem dX3_draft_104 : decode cX3_draft 104 = .ok (.getfield 77, 3) := by decide +kernel
theorem dX3_draft_107 : decode cX3_draft 107 = .ok (.iconst 1, 1) := by decide +kernel
theorem dX3_draft_108 : decode cX3_draft 108 = .ok (.iadd, 1) := by decide +kernel
theorem dX3_draft_109 : decode cX3_draft 109 = .ok (.putfield 77, 3) := by decide +kernel
theorem dX3_draft_112 : decode cX3_draft 112 = .ok (.aload_n 0, 1) := by decide +kernel
theorem dX3_draft_113 : decode cX3_draft 113 = .ok (.getfield 77, 3) := by decide +kernel
theorem dX3_draft_116 : decode cX3_draft 116 = .ok (.ireturn, 1) := by decide +kernel
set_option maxRecDepth 20000 in
theorem ggX3_lay_X3_holds : GoodIn wsX3_lay wsX3_holds := goodIn_r _ [12, 13, 14, 15, 16, 17, 18, 19, 20, 21, 22, 23, 24, 25, 26, 27, 28, 29, 30, 31, 32, 33, 34, 35] (by decide +kernel) (by decide +kernel)
set_option maxRecDepth 20000 in
theorem gX3_lay_X3_holds : GoodIn wsX3_lay (wsV RX3 84 RX3 yX3_holds wsX3_holds) := goodIn_app (goodIn_of _ (by decide +kernel)) ggX3_lay_X3_holds
theorem dX3_lay_0 : decode cX3_lay 0 = .ok (.aload_n 0, 1) := by decide +kernel
theorem dX3_lay_1 : decode cX3_lay 1 = .ok (.aload_n 0, 1) := by decide +kernel
theorem dX3_lay_2 : decode cX3_lay 2 = .ok (.getfield 77, 3) := by decide +kernel
theorem dX3_lay_5 : decode cX3_lay 5 = .ok (.iconst 2, 1) := by decide +kernel
theorem dX3_lay_6 : decode cX3_lay 6 = .ok (.if_icmp .lt 12, 3) := by decide +kernel
theorem dX3_lay_9 : decode cX3_lay 9 = .ok (.aload_n 0, 1) := by decide +kernel
theorem dX3_lay_10 : decode cX3_lay 10 = .ok (.getfield 70, 3) := by decide +kernel
theorem dX3_lay_13 : decode cX3_lay 13 = .ok (.bipush 8, 2) := by decide +kernel
theorem dX3_lay_15 : decode cX3_lay 15 = .ok (.if_icmp .ne 7, 3) := by decide +kernel
theorem dX3_lay_18 : decode cX3_lay 18 = .ok (.iconst 1, 1) := by decide +kernel
theorem dX3_lay_19 : decode cX3_lay 19 = .ok (.goto 4, 3) := by decide +kernel
theorem dX3_lay_22 : decode cX3_lay 22 = .ok (.iconst 0, 1) := by decide +kernel
theorem dX3_lay_23 : decode cX3_lay 23 = .ok (.invokevirtual 84, 3) := by decide +kernel
theorem dX3_lay_26 : decode cX3_lay 26 = .ok (.ifCond .ne 5, 3) := by decide +kernel
theorem dX3_lay_29 : decode cX3_lay 29 = .ok (.iconst 0, 1) := by decide +kernel
theorem dX3_lay_30 : decode cX3_lay 30 = .ok (.ireturn, 1) := by decide +kernel
theorem dX3_lay_31 : decode cX3_lay 31 = .ok (.iconst 0, 1) := by decide +kernel
theorem dX3_lay_32 : decode cX3_lay 32 = .ok (.istore_n 1, 1) := by decide +kernel
theorem dX3_lay_33 : decode cX3_lay 33 = .ok (.iload_n 1, 1) := by decide +kernel
theorem dX3_lay_34 : decode cX3_lay 34 = .ok (.aload_n 0, 1) := by decide +kernel
theorem dX3_lay_35 : decode cX3_lay 35 = .ok (.getfield 77, 3) := by decide +kernel
theorem dX3_lay_38 : decode cX3_lay 38 = .ok (.if_icmp .ge 49, 3) := by decide +kernel
theorem dX3_lay_41 : decode cX3_lay 41 = .ok (.aload_n 0, 1) := by decide +kernel
theorem dX3_lay_42 : decode cX3_lay 42 = .ok (.getfield 19, 3) := by decide +kernel
theorem dX3_lay_45 : decode cX3_lay 45 = .ok (.bipush 8, 2) := by decide +kernel
theorem dX3_lay_47 : decode cX3_lay 47 = .ok (.aload_n 0, 1) := by decide +kernel
theorem dX3_lay_48 : decode cX3_lay 48 = .ok (.getfield 70, 3) := by decide +kernel
theorem dX3_lay_51 : decode cX3_lay 51 = .ok (.imul, 1) := by decide +kernel
theorem dX3_lay_52 : decode cX3_lay 52 = .ok (.iload_n 1, 1) := by decide +kernel
theorem dX3_lay_53 : decode cX3_lay 53 = .ok (.iadd, 1) := by decide +kernel
theorem dX3_lay_54 : decode cX3_lay 54 = .ok (.aload_n 0, 1) := by decide +kernel
theorem dX3_lay_55 : decode cX3_lay 55 = .ok (.getfield 7, 3) := by decide +kernel
theorem dX3_lay_58 : decode cX3_lay 58 = .ok (.iload_n 1, 1) := by decide +kernel
theorem dX3_lay_59 : decode cX3_lay 59 = .ok (.iaload, 1) := by decide +kernel
theorem dX3_lay_60 : decode cX3_lay 60 = .ok (.iastore, 1) := by decide +kernel
theorem dX3_lay_61 : decode cX3_lay 61 = .ok (.aload_n 0, 1) := by decide +kernel
theorem dX3_lay_62 : decode cX3_lay 62 = .ok (.getfield 22, 3) := by decide +kernel
theorem dX3_lay_65 : decode cX3_lay 65 = .ok (.bipush 8, 2) := by decide +kernel
theorem dX3_lay_67 : decode cX3_lay 67 = .ok (.aload_n 0, 1) := by decide +kernel
theorem dX3_lay_68 : decode cX3_lay 68 = .ok (.getfield 70, 3) := by decide +kernel
theorem dX3_lay_71 : decode cX3_lay 71 = .ok (.imul, 1) := by decide +kernel
theorem dX3_lay_72 : decode cX3_lay 72 = .ok (.iload_n 1, 1) := by decide +kernel
theorem dX3_lay_73 : decode cX3_lay 73 = .ok (.iadd, 1) := by decide +kernel
theorem dX3_lay_74 : decode cX3_lay 74 = .ok (.aload_n 0, 1) := by decide +kernel
theorem dX3_lay_75 : decode cX3_lay 75 = .ok (.getfield 13, 3) := by decide +kernel
theorem dX3_lay_78 : decode cX3_lay 78 = .ok (.iload_n 1, 1) := by decide +kernel
theorem dX3_lay_79 : decode cX3_lay 79 = .ok (.iaload, 1) := by decide +kernel
theorem dX3_lay_80 : decode cX3_lay 80 = .ok (.iastore, 1) := by decide +kernel
theorem dX3_lay_81 : decode cX3_lay 81 = .ok (.iinc 1 1, 3) := by decide +kernel
theorem dX3_lay_84 : decode cX3_lay 84 = .ok (.goto (-51), 3) := by decide +kernel
theorem dX3_lay_87 : decode cX3_lay 87 = .ok (.aload_n 0, 1) := by decide +kernel
theorem dX3_lay_88 : decode cX3_lay 88 = .ok (.getfield 16, 3) := by decide +kernel
theorem dX3_lay_91 : decode cX3_lay 91 = .ok (.aload_n 0, 1) := by decide +kernel
theorem dX3_lay_92 : decode cX3_lay 92 = .ok (.getfield 70, 3) := by decide +kernel
theorem dX3_lay_95 : decode cX3_lay 95 = .ok (.aload_n 0, 1) := by decide +kernel
theorem dX3_lay_96 : decode cX3_lay 96 = .ok (.getfield 77, 3) := by decide +kernel
theorem dX3_lay_99 : decode cX3_lay 99 = .ok (.iastore, 1) := by decide +kernel
theorem dX3_lay_100 : decode cX3_lay 100 = .ok (.aload_n 0, 1) := by decide +kernel
theorem dX3_lay_101 : decode cX3_lay 101 = .ok (.iconst 0, 1) := by decide +kernel
theorem dX3_lay_102 : decode cX3_lay 102 = .ok (.putfield 77, 3) := by decide +kernel
theorem dX3_lay_105 : decode cX3_lay 105 = .ok (.aload_n 0, 1) := by decide +kernel
theorem dX3_lay_106 : decode cX3_lay 106 = .ok (.dup, 1) := by decide +kernel
theorem dX3_lay_107 : decode cX3_lay 107 = .ok (.getfield 70, 3) := by decide +kernel
theorem dX3_lay_110 : decode cX3_lay 110 = .ok (.iconst 1, 1) := by decide +kernel
theorem dX3_lay_111 : decode cX3_lay 111 = .ok (.iadd, 1) := by decide +kernel
theorem dX3_lay_112 : decode cX3_lay 112 = .ok (.putfield 70, 3) := by decide +kernel
theorem dX3_lay_115 : decode cX3_lay 115 = .ok (.aload_n 0, 1) := by decide +kernel
theorem dX3_lay_116 : decode cX3_lay 116 = .ok (.getfield 70, 3) := by decide +kernel
theorem dX3_lay_119 : decode cX3_lay 119 = .ok (.iconst 1, 1) := by decide +kernel
theorem dX3_lay_120 : decode cX3_lay 120 = .ok (.isub, 1) := by decide +kernel
theorem dX3_lay_121 : decode cX3_lay 121 = .ok (.ireturn, 1) := by decide +kernel
theorem dX3_side_0 : decode cX3_side 0 = .ok (.iload_n 2, 1) := by decide +kernel
theorem dX3_side_1 : decode cX3_side 1 = .ok (.iload_n 0, 1) := by decide +kernel
theorem dX3_side_2 : decode cX3_side 2 = .ok (.isub, 1) := by decide +kernel
theorem dX3_side_3 : decode cX3_side 3 = .ok (.iload 5, 2) := by decide +kernel
theorem dX3_side_5 : decode cX3_side 5 = .ok (.iload_n 1, 1) := by decide +kernel
theorem dX3_side_6 : decode cX3_side 6 = .ok (.isub, 1) := by decide +kernel
theorem dX3_side_7 : decode cX3_side 7 = .ok (.imul, 1) := by decide +kernel
theorem dX3_side_8 : decode cX3_side 8 = .ok (.iload_n 3, 1) := by decide +kernel
theorem dX3_side_9 : decode cX3_side 9 = .ok (.iload_n 1, 1) := by decide +kernel
theorem dX3_side_10 : decode cX3_side 10 = .ok (.isub, 1) := by decide +kernel
theorem dX3_side_11 : decode cX3_side 11 = .ok (.iload 4, 2) := by decide +kernel
theorem dX3_side_13 : decode cX3_side 13 = .ok (.iload_n 0, 1) := by decide +kernel
theorem dX3_side_14 : decode cX3_side 14 = .ok (.isub, 1) := by decide +kernel
theorem dX3_side_15 : decode cX3_side 15 = .ok (.imul, 1) := by decide +kernel
theorem dX3_side_16 : decode cX3_side 16 = .ok (.isub, 1) := by decide +kernel
theorem dX3_side_17 : decode cX3_side 17 = .ok (.istore 6, 2) := by decide +kernel
theorem dX3_side_19 : decode cX3_side 19 = .ok (.iload 6, 2) := by decide +kernel
theorem dX3_side_21 : decode cX3_side 21 = .ok (.ifCond .le 7, 3) := by decide +kernel
theorem dX3_side_24 : decode cX3_side 24 = .ok (.iconst 1, 1) := by decide +kernel
theorem dX3_side_25 : decode cX3_side 25 = .ok (.goto 13, 3) := by decide +kernel
theorem dX3_side_28 : decode cX3_side 28 = .ok (.iload 6, 2) := by decide +kernel
theorem dX3_side_30 : decode cX3_side 30 = .ok (.ifCond .ge 7, 3) := by decide +kernel
theorem dX3_side_33 : decode cX3_side 33 = .ok (.iconst (-1), 1) := by decide +kernel
theorem dX3_side_34 : decode cX3_side 34 = .ok (.goto 4, 3) := by decide +kernel
theorem dX3_side_37 : decode cX3_side 37 = .ok (.iconst 0, 1) := by decide +kernel
theorem dX3_side_38 : decode cX3_side 38 = .ok (.ireturn, 1) := by decide +kernel
set_option maxRecDepth 20000 in
theorem ggX3_isBetween_X3_in : GoodIn wsX3_isBetween wsX3_in := goodIn_r _ [4] (by decide +kernel) (by decide +kernel)
set_option maxRecDepth 20000 in
theorem gX3_isBetween_X3_in : GoodIn wsX3_isBetween (va_wsS RX3 66 yX3_in wsX3_in) := goodIn_app (goodIn_of _ (by decide +kernel)) ggX3_isBetween_X3_in
theorem dX3_isBetween_0 : decode cX3_isBetween 0 = .ok (.iload_n 0, 1) := by decide +kernel
theorem dX3_isBetween_1 : decode cX3_isBetween 1 = .ok (.iload_n 2, 1) := by decide +kernel
theorem dX3_isBetween_2 : decode cX3_isBetween 2 = .ok (.if_icmp .gt 13, 3) := by decide +kernel
theorem dX3_isBetween_5 : decode cX3_isBetween 5 = .ok (.iload 4, 2) := by decide +kernel
theorem dX3_isBetween_7 : decode cX3_isBetween 7 = .ok (.iload_n 0, 1) := by decide +kernel
theorem dX3_isBetween_8 : decode cX3_isBetween 8 = .ok (.iload_n 2, 1) := by decide +kernel
theorem dX3_isBetween_9 : decode cX3_isBetween 9 = .ok (.invokestatic 66, 3) := by decide +kernel
theorem dX3_isBetween_12 : decode cX3_isBetween 12 = .ok (.goto 10, 3) := by decide +kernel
theorem dX3_isBetween_15 : decode cX3_isBetween 15 = .ok (.iload 4, 2) := by decide +kernel
theorem dX3_isBetween_17 : decode cX3_isBetween 17 = .ok (.iload_n 2, 1) := by decide +kernel
theorem dX3_isBetween_18 : decode cX3_isBetween 18 = .ok (.iload_n 0, 1) := by decide +kernel
theorem dX3_isBetween_19 : decode cX3_isBetween 19 = .ok (.invokestatic 66, 3) := by decide +kernel
theorem dX3_isBetween_22 : decode cX3_isBetween 22 = .ok (.istore 6, 2) := by decide +kernel
theorem dX3_isBetween_24 : decode cX3_isBetween 24 = .ok (.iload 6, 2) := by decide +kernel
theorem dX3_isBetween_26 : decode cX3_isBetween 26 = .ok (.ifCond .eq 35, 3) := by decide +kernel
theorem dX3_isBetween_29 : decode cX3_isBetween 29 = .ok (.iload_n 1, 1) := by decide +kernel
theorem dX3_isBetween_30 : decode cX3_isBetween 30 = .ok (.iload_n 3, 1) := by decide +kernel
theorem dX3_isBetween_31 : decode cX3_isBetween 31 = .ok (.if_icmp .gt 16, 3) := by decide +kernel
theorem dX3_isBetween_34 : decode cX3_isBetween 34 = .ok (.iload 5, 2) := by decide +kernel
theorem dX3_isBetween_36 : decode cX3_isBetween 36 = .ok (.iload_n 1, 1) := by decide +kernel
theorem dX3_isBetween_37 : decode cX3_isBetween 37 = .ok (.iload_n 3, 1) := by decide +kernel
theorem dX3_isBetween_38 : decode cX3_isBetween 38 = .ok (.invokestatic 66, 3) := by decide +kernel
theorem dX3_isBetween_41 : decode cX3_isBetween 41 = .ok (.ifCond .eq 20, 3) := by decide +kernel
theorem dX3_isBetween_44 : decode cX3_isBetween 44 = .ok (.goto 13, 3) := by decide +kernel
theorem dX3_isBetween_47 : decode cX3_isBetween 47 = .ok (.iload 5, 2) := by decide +kernel
theorem dX3_isBetween_49 : decode cX3_isBetween 49 = .ok (.iload_n 3, 1) := by decide +kernel
theorem dX3_isBetween_50 : decode cX3_isBetween 50 = .ok (.iload_n 1, 1) := by decide +kernel
theorem dX3_isBetween_51 : decode cX3_isBetween 51 = .ok (.invokestatic 66, 3) := by decide +kernel
theorem dX3_isBetween_54 : decode cX3_isBetween 54 = .ok (.ifCond .eq 7, 3) := by decide +kernel
theorem dX3_isBetween_57 : decode cX3_isBetween 57 = .ok (.iconst 1, 1) := by decide +kernel
theorem dX3_isBetween_58 : decode cX3_isBetween 58 = .ok (.goto 4, 3) := by decide +kernel
theorem dX3_isBetween_61 : decode cX3_isBetween 61 = .ok (.iconst 0, 1) := by decide +kernel
theorem dX3_isBetween_62 : decode cX3_isBetween 62 = .ok (.ireturn, 1) := by decide +kernel
set_option maxRecDepth 20000 in
theorem ggX3_meets_X3_side : GoodIn wsX3_meets wsX3_side := goodIn_r _ [6] (by decide +kernel) (by decide +kernel)
set_option maxRecDepth 20000 in
theorem gX3_meets_X3_side : GoodIn wsX3_meets (va_wsS RX3 87 yX3_side wsX3_side) := goodIn_app (goodIn_of _ (by decide +kernel)) ggX3_meets_X3_side
set_option maxRecDepth 20000 in
theorem ggX3_meets_X3_isBetween : GoodIn wsX3_meets wsX3_isBetween := goodIn_r _ [9, 10, 11, 5, 12] (by decide +kernel) (by decide +kernel)
set_option maxRecDepth 20000 in
theorem gX3_meets_X3_isBetween : GoodIn wsX3_meets (va_wsS RX3 91 yX3_isBetween wsX3_isBetween) := goodIn_app (goodIn_of _ (by decide +kernel)) ggX3_meets_X3_isBetween
theorem dX3_meets_0 : decode cX3_meets 0 = .ok (.aload_n 0, 1) := by decide +kernel
theorem dX3_meets_1 : decode cX3_meets 1 = .ok (.getfield 19, 3) := by decide +kernel
theorem dX3_meets_4 : decode cX3_meets 4 = .ok (.iload_n 1, 1) := by decide +kernel
theorem dX3_meets_5 : decode cX3_meets 5 = .ok (.iaload, 1) := by decide +kernel
theorem dX3_meets_6 : decode cX3_meets 6 = .ok (.istore 6, 2) := by decide +kernel
theorem dX3_meets_8 : decode cX3_meets 8 = .ok (.aload_n 0, 1) := by decide +kernel
theorem dX3_meets_9 : decode cX3_meets 9 = .ok (.getfield 22, 3) := by decide +kernel
theorem dX3_meets_12 : decode cX3_meets 12 = .ok (.iload_n 1, 1) := by decide +kernel
theorem dX3_meets_13 : decode cX3_meets 13 = .ok (.iaload, 1) := by decide +kernel
theorem dX3_meets_14 : decode cX3_meets 14 = .ok (.istore 7, 2) := by decide +kernel
theorem dX3_meets_16 : decode cX3_meets 16 = .ok (.aload_n 0, 1) := by decide +kernel
theorem dX3_meets_17 : decode cX3_meets 17 = .ok (.getfield 19, 3) := by decide +kernel
theorem dX3_meets_20 : decode cX3_meets 20 = .ok (.iload_n 1, 1) := by decide +kernel
theorem dX3_meets_21 : decode cX3_meets 21 = .ok (.iconst 1, 1) := by decide +kernel
theorem dX3_meets_22 : decode cX3_meets 22 = .ok (.iadd, 1) := by decide +kernel
theorem dX3_meets_23 : decode cX3_meets 23 = .ok (.iaload, 1) := by decide +kernel
theorem dX3_meets_24 : decode cX3_meets 24 = .ok (.istore 8, 2) := by decide +kernel
theorem dX3_meets_26 : decode cX3_meets 26 = .ok (.aload_n 0, 1) := by decide +kernel
theorem dX3_meets_27 : decode cX3_meets 27 = .ok (.getfield 22, 3) := by decide +kernel
theorem dX3_meets_30 : decode cX3_meets 30 = .ok (.iload_n 1, 1) := by decide +kernel
theorem dX3_meets_31 : decode cX3_meets 31 = .ok (.iconst 1, 1) := by decide +kernel
theorem dX3_meets_32 : decode cX3_meets 32 = .ok (.iadd, 1) := by decide +kernel
theorem dX3_meets_33 : decode cX3_meets 33 = .ok (.iaload, 1) := by decide +kernel
theorem dX3_meets_34 : decode cX3_meets 34 = .ok (.istore 9, 2) := by decide +kernel
theorem dX3_meets_36 : decode cX3_meets 36 = .ok (.iload 6, 2) := by decide +kernel
theorem dX3_meets_38 : decode cX3_meets 38 = .ok (.iload 7, 2) := by decide +kernel
theorem dX3_meets_40 : decode cX3_meets 40 = .ok (.iload 8, 2) := by decide +kernel
theorem dX3_meets_42 : decode cX3_meets 42 = .ok (.iload 9, 2) := by decide +kernel
theorem dX3_meets_44 : decode cX3_meets 44 = .ok (.iload_n 2, 1) := by decide +kernel
theorem dX3_meets_45 : decode cX3_meets 45 = .ok (.iload_n 3, 1) := by decide +kernel
theorem dX3_meets_46 : decode cX3_meets 46 = .ok (.invokestatic 87, 3) := by decide +kernel
theorem dX3_meets_49 : decode cX3_meets 49 = .ok (.istore 10, 2) := by decide +kernel
theorem dX3_meets_51 : decode cX3_meets 51 = .ok (.iload 6, 2) := by decide +kernel
theorem dX3_meets_53 : decode cX3_meets 53 = .ok (.iload 7, 2) := by decide +kernel
theorem dX3_meets_55 : decode cX3_meets 55 = .ok (.iload 8, 2) := by decide +kernel
theorem dX3_meets_57 : decode cX3_meets 57 = .ok (.iload 9, 2) := by decide +kernel
theorem dX3_meets_59 : decode cX3_meets 59 = .ok (.iload 4, 2) := by decide +kernel
theorem dX3_meets_61 : decode cX3_meets 61 = .ok (.iload 5, 2) := by decide +kernel
theorem dX3_meets_63 : decode cX3_meets 63 = .ok (.invokestatic 87, 3) := by decide +kernel
theorem dX3_meets_66 : decode cX3_meets 66 = .ok (.istore 11, 2) := by decide +kernel
theorem dX3_meets_68 : decode cX3_meets 68 = .ok (.iload_n 2, 1) := by decide +kernel
theorem dX3_meets_69 : decode cX3_meets 69 = .ok (.iload_n 3, 1) := by decide +kernel
theorem dX3_meets_70 : decode cX3_meets 70 = .ok (.iload 4, 2) := by decide +kernel
theorem dX3_meets_72 : decode cX3_meets 72 = .ok (.iload 5, 2) := by decide +kernel
theorem dX3_meets_74 : decode cX3_meets 74 = .ok (.iload 6, 2) := by decide +kernel
theorem dX3_meets_76 : decode cX3_meets 76 = .ok (.iload 7, 2) := by decide +kernel
theorem dX3_meets_78 : decode cX3_meets 78 = .ok (.invokestatic 87, 3) := by decide +kernel
theorem dX3_meets_81 : decode cX3_meets 81 = .ok (.istore 12, 2) := by decide +kernel
theorem dX3_meets_83 : decode cX3_meets 83 = .ok (.iload_n 2, 1) := by decide +kernel
theorem dX3_meets_84 : decode cX3_meets 84 = .ok (.iload_n 3, 1) := by decide +kernel
theorem dX3_meets_85 : decode cX3_meets 85 = .ok (.iload 4, 2) := by decide +kernel
theorem dX3_meets_87 : decode cX3_meets 87 = .ok (.iload 5, 2) := by decide +kernel
theorem dX3_meets_89 : decode cX3_meets 89 = .ok (.iload 8, 2) := by decide +kernel
theorem dX3_meets_91 : decode cX3_meets 91 = .ok (.iload 9, 2) := by decide +kernel
theorem dX3_meets_93 : decode cX3_meets 93 = .ok (.invokestatic 87, 3) := by decide +kernel
theorem dX3_meets_96 : decode cX3_meets 96 = .ok (.istore 13, 2) := by decide +kernel
theorem dX3_meets_98 : decode cX3_meets 98 = .ok (.iload 10, 2) := by decide +kernel
theorem dX3_meets_100 : decode cX3_meets 100 = .ok (.ifCond .ne 19, 3) := by decide +kernel
theorem dX3_meets_103 : decode cX3_meets 103 = .ok (.iload 6, 2) := by decide +kernel
theorem dX3_meets_105 : decode cX3_meets 105 = .ok (.iload 7, 2) := by decide +kernel
theorem dX3_meets_107 : decode cX3_meets 107 = .ok (.iload 8, 2) := by decide +kernel
theorem dX3_meets_109 : decode cX3_meets 109 = .ok (.iload 9, 2) := by decide +kernel
theorem dX3_meets_111 : decode cX3_meets 111 = .ok (.iload_n 2, 1) := by decide +kernel
theorem dX3_meets_112 : decode cX3_meets 112 = .ok (.iload_n 3, 1) := by decide +kernel
theorem dX3_meets_113 : decode cX3_meets 113 = .ok (.invokestatic 91, 3) := by decide +kernel
theorem dX3_meets_116 : decode cX3_meets 116 = .ok (.ifCond .ne 26, 3) := by decide +kernel
theorem dX3_meets_119 : decode cX3_meets 119 = .ok (.iload 11, 2) := by decide +kernel
theorem dX3_meets_121 : decode cX3_meets 121 = .ok (.ifCond .ne 25, 3) := by decide +kernel
theorem dX3_meets_124 : decode cX3_meets 124 = .ok (.iload 6, 2) := by decide +kernel
theorem dX3_meets_126 : decode cX3_meets 126 = .ok (.iload 7, 2) := by decide +kernel
theorem dX3_meets_128 : decode cX3_meets 128 = .ok (.iload 8, 2) := by decide +kernel
theorem dX3_meets_130 : decode cX3_meets 130 = .ok (.iload 9, 2) := by decide +kernel
theorem dX3_meets_132 : decode cX3_meets 132 = .ok (.iload 4, 2) := by decide +kernel
theorem dX3_meets_134 : decode cX3_meets 134 = .ok (.iload 5, 2) := by decide +kernel
theorem dX3_meets_136 : decode cX3_meets 136 = .ok (.invokestatic 91, 3) := by decide +kernel
theorem dX3_meets_139 : decode cX3_meets 139 = .ok (.ifCond .eq 7, 3) := by decide +kernel
theorem dX3_meets_142 : decode cX3_meets 142 = .ok (.iconst 1, 1) := by decide +kernel
theorem dX3_meets_143 : decode cX3_meets 143 = .ok (.goto 4, 3) := by decide +kernel
theorem dX3_meets_146 : decode cX3_meets 146 = .ok (.iconst 0, 1) := by decide +kernel
theorem dX3_meets_147 : decode cX3_meets 147 = .ok (.istore 14, 2) := by decide +kernel
theorem dX3_meets_149 : decode cX3_meets 149 = .ok (.iload 12, 2) := by decide +kernel
theorem dX3_meets_151 : decode cX3_meets 151 = .ok (.ifCond .ne 19, 3) := by decide +kernel
theorem dX3_meets_154 : decode cX3_meets 154 = .ok (.iload_n 2, 1) := by decide +kernel
theorem dX3_meets_155 : decode cX3_meets 155 = .ok (.iload_n 3, 1) := by decide +kernel
theorem dX3_meets_156 : decode cX3_meets 156 = .ok (.iload 4, 2) := by decide +kernel
theorem dX3_meets_158 : decode cX3_meets 158 = .ok (.iload 5, 2) := by decide +kernel
theorem dX3_meets_160 : decode cX3_meets 160 = .ok (.iload 6, 2) := by decide +kernel
theorem dX3_meets_162 : decode cX3_meets 162 = .ok (.iload 7, 2) := by decide +kernel
theorem dX3_meets_164 : decode cX3_meets 164 = .ok (.invokestatic 91, 3) := by decide +kernel
theorem dX3_meets_167 : decode cX3_meets 167 = .ok (.ifCond .ne 24, 3) := by decide +kernel
theorem dX3_meets_170 : decode cX3_meets 170 = .ok (.iload 13, 2) := by decide +kernel
theorem dX3_meets_172 : decode cX3_meets 172 = .ok (.ifCond .ne 23, 3) := by decide +kernel
theorem dX3_meets_175 : decode cX3_meets 175 = .ok (.iload_n 2, 1) := by decide +kernel
theorem dX3_meets_176 : decode cX3_meets 176 = .ok (.iload_n 3, 1) := by decide +kernel
theorem dX3_meets_177 : decode cX3_meets 177 = .ok (.iload 4, 2) := by decide +kernel
theorem dX3_meets_179 : decode cX3_meets 179 = .ok (.iload 5, 2) := by decide +kernel
theorem dX3_meets_181 : decode cX3_meets 181 = .ok (.iload 8, 2) := by decide +kernel
theorem dX3_meets_183 : decode cX3_meets 183 = .ok (.iload 9, 2) := by decide +kernel
theorem dX3_meets_185 : decode cX3_meets 185 = .ok (.invokestatic 91, 3) := by decide +kernel
theorem dX3_meets_188 : decode cX3_meets 188 = .ok (.ifCond .eq 7, 3) := by decide +kernel
theorem dX3_meets_191 : decode cX3_meets 191 = .ok (.iconst 1, 1) := by decide +kernel
theorem dX3_meets_192 : decode cX3_meets 192 = .ok (.goto 4, 3) := by decide +kernel
theorem dX3_meets_195 : decode cX3_meets 195 = .ok (.iconst 0, 1) := by decide +kernel
theorem dX3_meets_196 : decode cX3_meets 196 = .ok (.istore 15, 2) := by decide +kernel
theorem dX3_meets_198 : decode cX3_meets 198 = .ok (.iload 14, 2) := by decide +kernel
theorem dX3_meets_200 : decode cX3_meets 200 = .ok (.ifCond .ne 24, 3) := by decide +kernel
theorem dX3_meets_203 : decode cX3_meets 203 = .ok (.iload 15, 2) := by decide +kernel
theorem dX3_meets_205 : decode cX3_meets 205 = .ok (.ifCond .ne 19, 3) := by decide +kernel
theorem dX3_meets_208 : decode cX3_meets 208 = .ok (.iload 10, 2) := by decide +kernel
theorem dX3_meets_210 : decode cX3_meets 210 = .ok (.iload 11, 2) := by decide +kernel
theorem dX3_meets_212 : decode cX3_meets 212 = .ok (.imul, 1) := by decide +kernel
theorem dX3_meets_213 : decode cX3_meets 213 = .ok (.ifCond .ge 15, 3) := by decide +kernel
theorem dX3_meets_216 : decode cX3_meets 216 = .ok (.iload 12, 2) := by decide +kernel
theorem dX3_meets_218 : decode cX3_meets 218 = .ok (.iload 13, 2) := by decide +kernel
theorem dX3_meets_220 : decode cX3_meets 220 = .ok (.imul, 1) := by decide +kernel
theorem dX3_meets_221 : decode cX3_meets 221 = .ok (.ifCond .ge 7, 3) := by decide +kernel
theorem dX3_meets_224 : decode cX3_meets 224 = .ok (.iconst 1, 1) := by decide +kernel
theorem dX3_meets_225 : decode cX3_meets 225 = .ok (.goto 4, 3) := by decide +kernel
theorem dX3_meets_228 : decode cX3_meets 228 = .ok (.iconst 0, 1) := by decide +kernel
theorem dX3_meets_229 : decode cX3_meets 229 = .ok (.ireturn, 1) := by decide +kernel
set_option maxRecDepth 20000 in
theorem ggX3_doCross_X3_meets : GoodIn wsX3_doCross wsX3_meets := goodIn_r _ [7, 1, 2, 8, 9, 6, 10, 11, 12, 13, 14, 15, 16, 17, 18, 19, 20, 21, 22, 23, 24, 25, 26, 27, 28, 29, 30, 31, 32, 33, 34, 35, 36, 37, 38] (by decide +kernel) (by decide +kernel)
set_option maxRecDepth 20000 in
theorem gX3_doCross_X3_meets : GoodIn wsX3_doCross (wsV RX3 95 RX3 yX3_meets wsX3_meets) := goodIn_app (goodIn_of _ (by decide +kernel)) ggX3_doCross_X3_meets
theorem dX3_doCross_0 : decode cX3_doCross 0 = .ok (.aload_n 0, 1) := by decide +kernel
theorem dX3_doCross_1 : decode cX3_doCross 1 = .ok (.iload_n 1, 1) := by decide +kernel
theorem dX3_doCross_2 : decode cX3_doCross 2 = .ok (.aload_n 0, 1) := by decide +kernel
theorem dX3_doCross_3 : decode cX3_doCross 3 = .ok (.getfield 19, 3) := by decide +kernel
theorem dX3_doCross_6 : decode cX3_doCross 6 = .ok (.iload_n 2, 1) := by decide +kernel
theorem dX3_doCross_7 : decode cX3_doCross 7 = .ok (.iaload, 1) := by decide +kernel
theorem dX3_doCross_8 : decode cX3_doCross 8 = .ok (.aload_n 0, 1) := by decide +kernel
theorem dX3_doCross_9 : decode cX3_doCross 9 = .ok (.getfield 22, 3) := by decide +kernel
theorem dX3_doCross_12 : decode cX3_doCross 12 = .ok (.iload_n 2, 1) := by decide +kernel
theorem dX3_doCross_13 : decode cX3_doCross 13 = .ok (.iaload, 1) := by decide +kernel
theorem dX3_doCross_14 : decode cX3_doCross 14 = .ok (.aload_n 0, 1) := by decide +kernel
theorem dX3_doCross_15 : decode cX3_doCross 15 = .ok (.getfield 19, 3) := by decide +kernel
theorem dX3_doCross_18 : decode cX3_doCross 18 = .ok (.iload_n 2, 1) := by decide +kernel
theorem dX3_doCross_19 : decode cX3_doCross 19 = .ok (.iconst 1, 1) := by decide +kernel
theorem dX3_doCross_20 : decode cX3_doCross 20 = .ok (.iadd, 1) := by decide +kernel
theorem dX3_doCross_21 : decode cX3_doCross 21 = .ok (.iaload, 1) := by decide +kernel
theorem dX3_doCross_22 : decode cX3_doCross 22 = .ok (.aload_n 0, 1) := by decide +kernel
theorem dX3_doCross_23 : decode cX3_doCross 23 = .ok (.getfield 22, 3) := by decide +kernel
theorem dX3_doCross_26 : decode cX3_doCross 26 = .ok (.iload_n 2, 1) := by decide +kernel
theorem dX3_doCross_27 : decode cX3_doCross 27 = .ok (.iconst 1, 1) := by decide +kernel
theorem dX3_doCross_28 : decode cX3_doCross 28 = .ok (.iadd, 1) := by decide +kernel
theorem dX3_doCross_29 : decode cX3_doCross 29 = .ok (.iaload, 1) := by decide +kernel
theorem dX3_doCross_30 : decode cX3_doCross 30 = .ok (.invokevirtual 95, 3) := by decide +kernel
theorem dX3_doCross_33 : decode cX3_doCross 33 = .ok (.ireturn, 1) := by decide +kernel
theorem dX3_isSteep_0 : decode cX3_isSteep 0 = .ok (.aload_n 0, 1) := by decide +kernel
theorem dX3_isSteep_1 : decode cX3_isSteep 1 = .ok (.getfield 19, 3) := by decide +kernel
theorem dX3_isSteep_4 : decode cX3_isSteep 4 = .ok (.iload_n 1, 1) := by decide +kernel
theorem dX3_isSteep_5 : decode cX3_isSteep 5 = .ok (.iconst 1, 1) := by decide +kernel
theorem dX3_isSteep_6 : decode cX3_isSteep 6 = .ok (.iadd, 1) := by decide +kernel
theorem dX3_isSteep_7 : decode cX3_isSteep 7 = .ok (.iaload, 1) := by decide +kernel
theorem dX3_isSteep_8 : decode cX3_isSteep 8 = .ok (.aload_n 0, 1) := by decide +kernel
theorem dX3_isSteep_9 : decode cX3_isSteep 9 = .ok (.getfield 19, 3) := by decide +kernel
theorem dX3_isSteep_12 : decode cX3_isSteep 12 = .ok (.iload_n 1, 1) := by decide +kernel
theorem dX3_isSteep_13 : decode cX3_isSteep 13 = .ok (.iaload, 1) := by decide +kernel
theorem dX3_isSteep_14 : decode cX3_isSteep 14 = .ok (.isub, 1) := by decide +kernel
theorem dX3_isSteep_15 : decode cX3_isSteep 15 = .ok (.istore_n 3, 1) := by decide +kernel
theorem dX3_isSteep_16 : decode cX3_isSteep 16 = .ok (.aload_n 0, 1) := by decide +kernel
theorem dX3_isSteep_17 : decode cX3_isSteep 17 = .ok (.getfield 22, 3) := by decide +kernel
theorem dX3_isSteep_20 : decode cX3_isSteep 20 = .ok (.iload_n 1, 1) := by decide +kernel
theorem dX3_isSteep_21 : decode cX3_isSteep 21 = .ok (.iconst 1, 1) := by decide +kernel
theorem dX3_isSteep_22 : decode cX3_isSteep 22 = .ok (.iadd, 1) := by decide +kernel
theorem dX3_isSteep_23 : decode cX3_isSteep 23 = .ok (.iaload, 1) := by decide +kernel
theorem dX3_isSteep_24 : decode cX3_isSteep 24 = .ok (.aload_n 0, 1) := by decide +kernel
theorem dX3_isSteep_25 : decode cX3_isSteep 25 = .ok (.getfield 22, 3) := by decide +kernel
theorem dX3_isSteep_28 : decode cX3_isSteep 28 = .ok (.iload_n 1, 1) := by decide +kernel
theorem dX3_isSteep_29 : decode cX3_isSteep 29 = .ok (.iaload, 1) := by decide +kernel
theorem dX3_isSteep_30 : decode cX3_isSteep 30 = .ok (.isub, 1) := by decide +kernel
theorem dX3_isSteep_31 : decode cX3_isSteep 31 = .ok (.istore 4, 2) := by decide +kernel
theorem dX3_isSteep_33 : decode cX3_isSteep 33 = .ok (.aload_n 0, 1) := by decide +kernel
theorem dX3_isSteep_34 : decode cX3_isSteep 34 = .ok (.getfield 19, 3) := by decide +kernel
theorem dX3_isSteep_37 : decode cX3_isSteep 37 = .ok (.iload_n 2, 1) := by decide +kernel
theorem dX3_isSteep_38 : decode cX3_isSteep 38 = .ok (.iconst 1, 1) := by decide +kernel
theorem dX3_isSteep_39 : decode cX3_isSteep 39 = .ok (.iadd, 1) := by decide +kernel
theorem dX3_isSteep_40 : decode cX3_isSteep 40 = .ok (.iaload, 1) := by decide +kernel
theorem dX3_isSteep_41 : decode cX3_isSteep 41 = .ok (.aload_n 0, 1) := by decide +kernel
theorem dX3_isSteep_42 : decode cX3_isSteep 42 = .ok (.getfield 19, 3) := by decide +kernel
theorem dX3_isSteep_45 : decode cX3_isSteep 45 = .ok (.iload_n 2, 1) := by decide +kernel
theorem dX3_isSteep_46 : decode cX3_isSteep 46 = .ok (.iaload, 1) := by decide +kernel
theorem dX3_isSteep_47 : decode cX3_isSteep 47 = .ok (.isub, 1) := by decide +kernel
theorem dX3_isSteep_48 : decode cX3_isSteep 48 = .ok (.istore 5, 2) := by decide +kernel
theorem dX3_isSteep_50 : decode cX3_isSteep 50 = .ok (.aload_n 0, 1) := by decide +kernel
theorem dX3_isSteep_51 : decode cX3_isSteep 51 = .ok (.getfield 22, 3) := by decide +kernel
theorem dX3_isSteep_54 : decode cX3_isSteep 54 = .ok (.iload_n 2, 1) := by decide +kernel
theorem dX3_isSteep_55 : decode cX3_isSteep 55 = .ok (.iconst 1, 1) := by decide +kernel
theorem dX3_isSteep_56 : decode cX3_isSteep 56 = .ok (.iadd, 1) := by decide +kernel
theorem dX3_isSteep_57 : decode cX3_isSteep 57 = .ok (.iaload, 1) := by decide +kernel
theorem dX3_isSteep_58 : decode cX3_isSteep 58 = .ok (.aload_n 0, 1) := by decide +kernel
theorem dX3_isSteep_59 : decode cX3_isSteep 59 = .ok (.getfield 22, 3) := by decide +kernel
theorem dX3_isSteep_62 : decode cX3_isSteep 62 = .ok (.iload_n 2, 1) := by decide +kernel
theorem dX3_isSteep_63 : decode cX3_isSteep 63 = .ok (.iaload, 1) := by decide +kernel
theorem dX3_isSteep_64 : decode cX3_isSteep 64 = .ok (.isub, 1) := by decide +kernel
theorem dX3_isSteep_65 : decode cX3_isSteep 65 = .ok (.istore 6, 2) := by decide +kernel
theorem dX3_isSteep_67 : decode cX3_isSteep 67 = .ok (.iload_n 3, 1) := by decide +kernel
theorem dX3_isSteep_68 : decode cX3_isSteep 68 = .ok (.iload 5, 2) := by decide +kernel
theorem dX3_isSteep_70 : decode cX3_isSteep 70 = .ok (.imul, 1) := by decide +kernel
theorem dX3_isSteep_71 : decode cX3_isSteep 71 = .ok (.iload 4, 2) := by decide +kernel
theorem dX3_isSteep_73 : decode cX3_isSteep 73 = .ok (.iload 6, 2) := by decide +kernel
theorem dX3_isSteep_75 : decode cX3_isSteep 75 = .ok (.imul, 1) := by decide +kernel
theorem dX3_isSteep_76 : decode cX3_isSteep 76 = .ok (.iadd, 1) := by decide +kernel
theorem dX3_isSteep_77 : decode cX3_isSteep 77 = .ok (.istore 7, 2) := by decide +kernel
theorem dX3_isSteep_79 : decode cX3_isSteep 79 = .ok (.iload_n 3, 1) := by decide +kernel
theorem dX3_isSteep_80 : decode cX3_isSteep 80 = .ok (.iload 6, 2) := by decide +kernel
theorem dX3_isSteep_82 : decode cX3_isSteep 82 = .ok (.imul, 1) := by decide +kernel
theorem dX3_isSteep_83 : decode cX3_isSteep 83 = .ok (.iload 4, 2) := by decide +kernel
theorem dX3_isSteep_85 : decode cX3_isSteep 85 = .ok (.iload 5, 2) := by decide +kernel
theorem dX3_isSteep_87 : decode cX3_isSteep 87 = .ok (.imul, 1) := by decide +kernel
theorem dX3_isSteep_88 : decode cX3_isSteep 88 = .ok (.isub, 1) := by decide +kernel
theorem dX3_isSteep_89 : decode cX3_isSteep 89 = .ok (.istore 8, 2) := by decide +kernel
theorem dX3_isSteep_91 : decode cX3_isSteep 91 = .ok (.iload 7, 2) := by decide +kernel
theorem dX3_isSteep_93 : decode cX3_isSteep 93 = .ok (.ifCond .ge 9, 3) := by decide +kernel
theorem dX3_isSteep_96 : decode cX3_isSteep 96 = .ok (.iload 7, 2) := by decide +kernel
theorem dX3_isSteep_98 : decode cX3_isSteep 98 = .ok (.ineg, 1) := by decide +kernel
theorem dX3_isSteep_99 : decode cX3_isSteep 99 = .ok (.goto 5, 3) := by decide +kernel
theorem dX3_isSteep_102 : decode cX3_isSteep 102 = .ok (.iload 7, 2) := by decide +kernel
theorem dX3_isSteep_104 : decode cX3_isSteep 104 = .ok (.iload 8, 2) := by decide +kernel
theorem dX3_isSteep_106 : decode cX3_isSteep 106 = .ok (.ifCond .ge 9, 3) := by decide +kernel
theorem dX3_isSteep_109 : decode cX3_isSteep 109 = .ok (.iload 8, 2) := by decide +kernel
theorem dX3_isSteep_111 : decode cX3_isSteep 111 = .ok (.ineg, 1) := by decide +kernel
theorem dX3_isSteep_112 : decode cX3_isSteep 112 = .ok (.goto 5, 3) := by decide +kernel
theorem dX3_isSteep_115 : decode cX3_isSteep 115 = .ok (.iload 8, 2) := by decide +kernel
theorem dX3_isSteep_117 : decode cX3_isSteep 117 = .ok (.if_icmp .gt 7, 3) := by decide +kernel
theorem dX3_isSteep_120 : decode cX3_isSteep 120 = .ok (.iconst 1, 1) := by decide +kernel
theorem dX3_isSteep_121 : decode cX3_isSteep 121 = .ok (.goto 4, 3) := by decide +kernel
theorem dX3_isSteep_124 : decode cX3_isSteep 124 = .ok (.iconst 0, 1) := by decide +kernel
theorem dX3_isSteep_125 : decode cX3_isSteep 125 = .ok (.ireturn, 1) := by decide +kernel
set_option maxRecDepth 20000 in
theorem ggX3_crossed_X3_doCross : GoodIn wsX3_crossed wsX3_doCross := goodIn_r _ [6, 7, 8, 9, 10, 11, 5, 12, 13, 14, 15, 16, 17, 18, 19, 20, 21, 22, 23, 24, 25, 26, 27, 28, 29, 30, 31, 32, 33, 34, 35, 36, 37, 38, 39, 40, 41, 42, 43] (by decide +kernel) (by decide +kernel)
set_option maxRecDepth 20000 in
theorem gX3_crossed_X3_doCross : GoodIn wsX3_crossed (wsV RX3 99 RX3 yX3_doCross wsX3_doCross) := goodIn_app (goodIn_of _ (by decide +kernel)) ggX3_crossed_X3_doCross
theorem dX3_crossed_0 : decode cX3_crossed 0 = .ok (.iconst 0, 1) := by decide +kernel
theorem dX3_crossed_1 : decode cX3_crossed 1 = .ok (.istore_n 3, 1) := by decide +kernel
theorem dX3_crossed_2 : decode cX3_crossed 2 = .ok (.iconst 0, 1) := by decide +kernel
theorem dX3_crossed_3 : decode cX3_crossed 3 = .ok (.istore 4, 2) := by decide +kernel
theorem dX3_crossed_5 : decode cX3_crossed 5 = .ok (.iload 4, 2) := by decide +kernel
theorem dX3_crossed_7 : decode cX3_crossed 7 = .ok (.aload_n 0, 1) := by decide +kernel
theorem dX3_crossed_8 : decode cX3_crossed 8 = .ok (.getfield 16, 3) := by decide +kernel
theorem dX3_crossed_11 : decode cX3_crossed 11 = .ok (.iload_n 1, 1) := by decide +kernel
theorem dX3_crossed_12 : decode cX3_crossed 12 = .ok (.iaload, 1) := by decide +kernel
theorem dX3_crossed_13 : decode cX3_crossed 13 = .ok (.iconst 1, 1) := by decide +kernel
theorem dX3_crossed_14 : decode cX3_crossed 14 = .ok (.isub, 1) := by decide +kernel
theorem dX3_crossed_15 : decode cX3_crossed 15 = .ok (.if_icmp .ge 65, 3) := by decide +kernel
theorem dX3_crossed_18 : decode cX3_crossed 18 = .ok (.iload_n 1, 1) := by decide +kernel
theorem dX3_crossed_19 : decode cX3_crossed 19 = .ok (.iload_n 2, 1) := by decide +kernel
theorem dX3_crossed_20 : decode cX3_crossed 20 = .ok (.if_icmp .eq 60, 3) := by decide +kernel
theorem dX3_crossed_23 : decode cX3_crossed 23 = .ok (.iconst 0, 1) := by decide +kernel
theorem dX3_crossed_24 : decode cX3_crossed 24 = .ok (.istore 5, 2) := by decide +kernel
theorem dX3_crossed_26 : decode cX3_crossed 26 = .ok (.iload 5, 2) := by decide +kernel
theorem dX3_crossed_28 : decode cX3_crossed 28 = .ok (.aload_n 0, 1) := by decide +kernel
theorem dX3_crossed_29 : decode cX3_crossed 29 = .ok (.getfield 16, 3) := by decide +kernel
theorem dX3_crossed_32 : decode cX3_crossed 32 = .ok (.iload_n 2, 1) := by decide +kernel
theorem dX3_crossed_33 : decode cX3_crossed 33 = .ok (.iaload, 1) := by decide +kernel
theorem dX3_crossed_34 : decode cX3_crossed 34 = .ok (.iconst 1, 1) := by decide +kernel
theorem dX3_crossed_35 : decode cX3_crossed 35 = .ok (.isub, 1) := by decide +kernel
theorem dX3_crossed_36 : decode cX3_crossed 36 = .ok (.if_icmp .ge 38, 3) := by decide +kernel
theorem dX3_crossed_39 : decode cX3_crossed 39 = .ok (.iload_n 3, 1) := by decide +kernel
theorem dX3_crossed_40 : decode cX3_crossed 40 = .ok (.aload_n 0, 1) := by decide +kernel
theorem dX3_crossed_41 : decode cX3_crossed 41 = .ok (.bipush 8, 2) := by decide +kernel
theorem dX3_crossed_43 : decode cX3_crossed 43 = .ok (.iload_n 1, 1) := by decide +kernel
theorem dX3_crossed_44 : decode cX3_crossed 44 = .ok (.imul, 1) := by decide +kernel
theorem dX3_crossed_45 : decode cX3_crossed 45 = .ok (.iload 4, 2) := by decide +kernel
theorem dX3_crossed_47 : decode cX3_crossed 47 = .ok (.iadd, 1) := by decide +kernel
theorem dX3_crossed_48 : decode cX3_crossed 48 = .ok (.bipush 8, 2) := by decide +kernel
theorem dX3_crossed_50 : decode cX3_crossed 50 = .ok (.iload_n 2, 1) := by decide +kernel
theorem dX3_crossed_51 : decode cX3_crossed 51 = .ok (.imul, 1) := by decide +kernel
theorem dX3_crossed_52 : decode cX3_crossed 52 = .ok (.iload 5, 2) := by decide +kernel
theorem dX3_crossed_54 : decode cX3_crossed 54 = .ok (.iadd, 1) := by decide +kernel
theorem dX3_crossed_55 : decode cX3_crossed 55 = .ok (.invokevirtual 99, 3) := by decide +kernel
theorem dX3_crossed_58 : decode cX3_crossed 58 = .ok (.ifCond .eq 7, 3) := by decide +kernel
theorem dX3_crossed_61 : decode cX3_crossed 61 = .ok (.iconst 1, 1) := by decide +kernel
theorem dX3_crossed_62 : decode cX3_crossed 62 = .ok (.goto 4, 3) := by decide +kernel
theorem dX3_crossed_65 : decode cX3_crossed 65 = .ok (.iconst 0, 1) := by decide +kernel
theorem dX3_crossed_66 : decode cX3_crossed 66 = .ok (.iadd, 1) := by decide +kernel
theorem dX3_crossed_67 : decode cX3_crossed 67 = .ok (.istore_n 3, 1) := by decide +kernel
theorem dX3_crossed_68 : decode cX3_crossed 68 = .ok (.iinc 5 1, 3) := by decide +kernel
theorem dX3_crossed_71 : decode cX3_crossed 71 = .ok (.goto (-45), 3) := by decide +kernel
theorem dX3_crossed_74 : decode cX3_crossed 74 = .ok (.iinc 4 1, 3) := by decide +kernel
theorem dX3_crossed_77 : decode cX3_crossed 77 = .ok (.goto (-72), 3) := by decide +kernel
theorem dX3_crossed_80 : decode cX3_crossed 80 = .ok (.iload_n 3, 1) := by decide +kernel
theorem dX3_crossed_81 : decode cX3_crossed 81 = .ok (.ireturn, 1) := by decide +kernel
set_option maxRecDepth 20000 in
theorem ggX3_isWellNow_X3_doCross : GoodIn wsX3_isWellNow wsX3_doCross := goodIn_r _ [6, 7, 8, 9, 10, 11, 5, 12, 13, 14, 15, 16, 17, 18, 19, 20, 21, 30, 31, 32, 33, 34, 35, 36, 37, 38, 39, 40, 41, 42, 43, 44, 45, 46, 47, 48, 49, 50, 51] (by decide +kernel) (by decide +kernel)
set_option maxRecDepth 20000 in
theorem gX3_isWellNow_X3_doCross : GoodIn wsX3_isWellNow (wsV RX3 99 RX3 yX3_doCross wsX3_doCross) := goodIn_app (goodIn_of _ (by decide +kernel)) ggX3_isWellNow_X3_doCross
set_option maxRecDepth 20000 in
theorem ggX3_isWellNow_X3_isSteep : GoodIn wsX3_isWellNow wsX3_isSteep := goodIn_r _ [25, 7, 8, 30, 31, 32, 33, 34, 35, 36, 37, 38, 39, 40, 41, 42, 43, 44, 45, 46, 47, 48, 49, 50, 51] (by decide +kernel) (by decide +kernel)
set_option maxRecDepth 20000 in
theorem gX3_isWellNow_X3_isSteep : GoodIn wsX3_isWellNow (wsV RX3 102 RX3 yX3_isSteep wsX3_isSteep) := goodIn_app (goodIn_of _ (by decide +kernel)) ggX3_isWellNow_X3_isSteep
set_option maxRecDepth 20000 in
theorem ggX3_isWellNow_X3_crossed : GoodIn wsX3_isWellNow wsX3_crossed := goodIn_r _ [29, 1, 2, 3, 4, 5, 6, 7, 8, 9, 10, 11, 12, 13, 14, 15, 16, 17, 18, 19, 20, 21, 30, 31, 32, 33, 34, 35, 36, 37, 38, 39, 40, 41, 42, 43, 44, 45, 46, 47, 48, 49, 50, 51] (by decide +kernel) (by decide +kernel)
set_option maxRecDepth 20000 in
theorem gX3_isWellNow_X3_crossed : GoodIn wsX3_isWellNow (wsV RX3 105 RX3 yX3_crossed wsX3_crossed) := goodIn_app (goodIn_of _ (by decide +kernel)) ggX3_isWellNow_X3_crossed
theorem dX3_isWellNow_0 : decode cX3_isWellNow 0 = .ok (.iconst 0, 1) := by decide +kernel
theorem dX3_isWellNow_1 : decode cX3_isWellNow 1 = .ok (.istore_n 3, 1) := by decide +kernel
theorem dX3_isWellNow_2 : decode cX3_isWellNow 2 = .ok (.iconst 0, 1) := by decide +kernel
theorem dX3_isWellNow_3 : decode cX3_isWellNow 3 = .ok (.istore 4, 2) := by decide +kernel
theorem dX3_isWellNow_5 : decode cX3_isWellNow 5 = .ok (.iload 4, 2) := by decide +kernel
theorem dX3_isWellNow_7 : decode cX3_isWellNow 7 = .ok (.aload_n 0, 1) := by decide +kernel
theorem dX3_isWellNow_8 : decode cX3_isWellNow 8 = .ok (.getfield 16, 3) := by decide +kernel
theorem dX3_isWellNow_11 : decode cX3_isWellNow 11 = .ok (.iload_n 1, 1) := by decide +kernel
theorem dX3_isWellNow_12 : decode cX3_isWellNow 12 = .ok (.iaload, 1) := by decide +kernel
theorem dX3_isWellNow_13 : decode cX3_isWellNow 13 = .ok (.iconst 1, 1) := by decide +kernel
theorem dX3_isWellNow_14 : decode cX3_isWellNow 14 = .ok (.isub, 1) := by decide +kernel
theorem dX3_isWellNow_15 : decode cX3_isWellNow 15 = .ok (.if_icmp .ge 84, 3) := by decide +kernel
theorem dX3_isWellNow_18 : decode cX3_isWellNow 18 = .ok (.iload_n 1, 1) := by decide +kernel
theorem dX3_isWellNow_19 : decode cX3_isWellNow 19 = .ok (.iload_n 2, 1) := by decide +kernel
theorem dX3_isWellNow_20 : decode cX3_isWellNow 20 = .ok (.if_icmp .eq 79, 3) := by decide +kernel
theorem dX3_isWellNow_23 : decode cX3_isWellNow 23 = .ok (.iconst 0, 1) := by decide +kernel
theorem dX3_isWellNow_24 : decode cX3_isWellNow 24 = .ok (.istore 5, 2) := by decide +kernel
theorem dX3_isWellNow_26 : decode cX3_isWellNow 26 = .ok (.iload 5, 2) := by decide +kernel
theorem dX3_isWellNow_28 : decode cX3_isWellNow 28 = .ok (.aload_n 0, 1) := by decide +kernel
theorem dX3_isWellNow_29 : decode cX3_isWellNow 29 = .ok (.getfield 16, 3) := by decide +kernel
theorem dX3_isWellNow_32 : decode cX3_isWellNow 32 = .ok (.iload_n 2, 1) := by decide +kernel
theorem dX3_isWellNow_33 : decode cX3_isWellNow 33 = .ok (.iaload, 1) := by decide +kernel
theorem dX3_isWellNow_34 : decode cX3_isWellNow 34 = .ok (.iconst 1, 1) := by decide +kernel
theorem dX3_isWellNow_35 : decode cX3_isWellNow 35 = .ok (.isub, 1) := by decide +kernel
theorem dX3_isWellNow_36 : decode cX3_isWellNow 36 = .ok (.if_icmp .ge 57, 3) := by decide +kernel
theorem dX3_isWellNow_39 : decode cX3_isWellNow 39 = .ok (.bipush 8, 2) := by decide +kernel
theorem dX3_isWellNow_41 : decode cX3_isWellNow 41 = .ok (.iload_n 1, 1) := by decide +kernel
theorem dX3_isWellNow_42 : decode cX3_isWellNow 42 = .ok (.imul, 1) := by decide +kernel
theorem dX3_isWellNow_43 : decode cX3_isWellNow 43 = .ok (.iload 4, 2) := by decide +kernel
theorem dX3_isWellNow_45 : decode cX3_isWellNow 45 = .ok (.iadd, 1) := by decide +kernel
theorem dX3_isWellNow_46 : decode cX3_isWellNow 46 = .ok (.istore 6, 2) := by decide +kernel
theorem dX3_isWellNow_48 : decode cX3_isWellNow 48 = .ok (.bipush 8, 2) := by decide +kernel
theorem dX3_isWellNow_50 : decode cX3_isWellNow 50 = .ok (.iload_n 2, 1) := by decide +kernel
theorem dX3_isWellNow_51 : decode cX3_isWellNow 51 = .ok (.imul, 1) := by decide +kernel
theorem dX3_isWellNow_52 : decode cX3_isWellNow 52 = .ok (.iload 5, 2) := by decide +kernel
theorem dX3_isWellNow_54 : decode cX3_isWellNow 54 = .ok (.iadd, 1) := by decide +kernel
theorem dX3_isWellNow_55 : decode cX3_isWellNow 55 = .ok (.istore 7, 2) := by decide +kernel
theorem dX3_isWellNow_57 : decode cX3_isWellNow 57 = .ok (.iload_n 3, 1) := by decide +kernel
theorem dX3_isWellNow_58 : decode cX3_isWellNow 58 = .ok (.aload_n 0, 1) := by decide +kernel
theorem dX3_isWellNow_59 : decode cX3_isWellNow 59 = .ok (.iload 6, 2) := by decide +kernel
theorem dX3_isWellNow_61 : decode cX3_isWellNow 61 = .ok (.iload 7, 2) := by decide +kernel
theorem dX3_isWellNow_63 : decode cX3_isWellNow 63 = .ok (.invokevirtual 99, 3) := by decide +kernel
theorem dX3_isWellNow_66 : decode cX3_isWellNow 66 = .ok (.ifCond .eq 18, 3) := by decide +kernel
theorem dX3_isWellNow_69 : decode cX3_isWellNow 69 = .ok (.aload_n 0, 1) := by decide +kernel
theorem dX3_isWellNow_70 : decode cX3_isWellNow 70 = .ok (.iload 6, 2) := by decide +kernel
theorem dX3_isWellNow_72 : decode cX3_isWellNow 72 = .ok (.iload 7, 2) := by decide +kernel
theorem dX3_isWellNow_74 : decode cX3_isWellNow 74 = .ok (.invokevirtual 102, 3) := by decide +kernel
theorem dX3_isWellNow_77 : decode cX3_isWellNow 77 = .ok (.ifCond .eq 7, 3) := by decide +kernel
theorem dX3_isWellNow_80 : decode cX3_isWellNow 80 = .ok (.iconst 1, 1) := by decide +kernel
theorem dX3_isWellNow_81 : decode cX3_isWellNow 81 = .ok (.goto 4, 3) := by decide +kernel
theorem dX3_isWellNow_84 : decode cX3_isWellNow 84 = .ok (.iconst 0, 1) := by decide +kernel
theorem dX3_isWellNow_85 : decode cX3_isWellNow 85 = .ok (.iadd, 1) := by decide +kernel
theorem dX3_isWellNow_86 : decode cX3_isWellNow 86 = .ok (.istore_n 3, 1) := by decide +kernel
theorem dX3_isWellNow_87 : decode cX3_isWellNow 87 = .ok (.iinc 5 1, 3) := by decide +kernel
theorem dX3_isWellNow_90 : decode cX3_isWellNow 90 = .ok (.goto (-64), 3) := by decide +kernel
theorem dX3_isWellNow_93 : decode cX3_isWellNow 93 = .ok (.iinc 4 1, 3) := by decide +kernel
theorem dX3_isWellNow_96 : decode cX3_isWellNow 96 = .ok (.goto (-91), 3) := by decide +kernel
theorem dX3_isWellNow_99 : decode cX3_isWellNow 99 = .ok (.iload_n 3, 1) := by decide +kernel
theorem dX3_isWellNow_100 : decode cX3_isWellNow 100 = .ok (.ifCond .le 17, 3) := by decide +kernel
theorem dX3_isWellNow_103 : decode cX3_isWellNow 103 = .ok (.iload_n 3, 1) := by decide +kernel
theorem dX3_isWellNow_104 : decode cX3_isWellNow 104 = .ok (.aload_n 0, 1) := by decide +kernel
theorem dX3_isWellNow_105 : decode cX3_isWellNow 105 = .ok (.iload_n 1, 1) := by decide +kernel
theorem dX3_isWellNow_106 : decode cX3_isWellNow 106 = .ok (.iload_n 2, 1) := by decide +kernel
theorem dX3_isWellNow_107 : decode cX3_isWellNow 107 = .ok (.invokevirtual 105, 3) := by decide +kernel
theorem dX3_isWellNow_110 : decode cX3_isWellNow 110 = .ok (.if_icmp .ne 7, 3) := by decide +kernel
theorem dX3_isWellNow_113 : decode cX3_isWellNow 113 = .ok (.iconst 1, 1) := by decide +kernel
theorem dX3_isWellNow_114 : decode cX3_isWellNow 114 = .ok (.goto 4, 3) := by decide +kernel
theorem dX3_isWellNow_117 : decode cX3_isWellNow 117 = .ok (.iconst 0, 1) := by decide +kernel
theorem dX3_isWellNow_118 : decode cX3_isWellNow 118 = .ok (.ireturn, 1) := by decide +kernel
set_option maxRecDepth 20000 in
theorem ggX3_errorOfMove_X3_isPoint : GoodIn wsX3_errorOfMove wsX3_isPoint := goodIn_r _ [8, 3, 9, 10, 11, 7, 12, 13, 14, 15, 16, 20, 21, 22, 23, 24, 25, 26, 27, 28, 29, 30, 31, 32, 33, 34, 35, 36, 37, 38, 39, 40, 41] (by decide +kernel) (by decide +kernel)
set_option maxRecDepth 20000 in
theorem gX3_errorOfMove_X3_isPoint : GoodIn wsX3_errorOfMove (wsV RX3 109 RX3 yX3_isPoint wsX3_isPoint) := goodIn_app (goodIn_of _ (by decide +kernel)) ggX3_errorOfMove_X3_isPoint
set_option maxRecDepth 20000 in
theorem ggX3_errorOfMove_X3_isPlace : GoodIn wsX3_errorOfMove wsX3_isPlace := goodIn_r _ [19, 14, 15, 7, 16] (by decide +kernel) (by decide +kernel)
set_option maxRecDepth 20000 in
theorem gX3_errorOfMove_X3_isPlace : GoodIn wsX3_errorOfMove (va_wsS RX3 80 yX3_isPlace wsX3_isPlace) := goodIn_app (goodIn_of _ (by decide +kernel)) ggX3_errorOfMove_X3_isPlace
theorem dX3_errorOfMove_0 : decode cX3_errorOfMove 0 = .ok (.aload_n 0, 1) := by decide +kernel
theorem dX3_errorOfMove_1 : decode cX3_errorOfMove 1 = .ok (.iload_n 1, 1) := by decide +kernel
theorem dX3_errorOfMove_2 : decode cX3_errorOfMove 2 = .ok (.iload_n 2, 1) := by decide +kernel
theorem dX3_errorOfMove_3 : decode cX3_errorOfMove 3 = .ok (.invokevirtual 109, 3) := by decide +kernel
theorem dX3_errorOfMove_6 : decode cX3_errorOfMove 6 = .ok (.ifCond .ne 5, 3) := by decide +kernel
theorem dX3_errorOfMove_9 : decode cX3_errorOfMove 9 = .ok (.iconst 1, 1) := by decide +kernel
theorem dX3_errorOfMove_10 : decode cX3_errorOfMove 10 = .ok (.ireturn, 1) := by decide +kernel
theorem dX3_errorOfMove_11 : decode cX3_errorOfMove 11 = .ok (.iload_n 3, 1) := by decide +kernel
theorem dX3_errorOfMove_12 : decode cX3_errorOfMove 12 = .ok (.iload 4, 2) := by decide +kernel
theorem dX3_errorOfMove_14 : decode cX3_errorOfMove 14 = .ok (.invokestatic 80, 3) := by decide +kernel
theorem dX3_errorOfMove_17 : decode cX3_errorOfMove 17 = .ok (.ifCond .ne 5, 3) := by decide +kernel
theorem dX3_errorOfMove_20 : decode cX3_errorOfMove 20 = .ok (.iconst 2, 1) := by decide +kernel
theorem dX3_errorOfMove_21 : decode cX3_errorOfMove 21 = .ok (.ireturn, 1) := by decide +kernel
theorem dX3_errorOfMove_22 : decode cX3_errorOfMove 22 = .ok (.bipush 8, 2) := by decide +kernel
theorem dX3_errorOfMove_24 : decode cX3_errorOfMove 24 = .ok (.iload_n 1, 1) := by decide +kernel
theorem dX3_errorOfMove_25 : decode cX3_errorOfMove 25 = .ok (.imul, 1) := by decide +kernel
theorem dX3_errorOfMove_26 : decode cX3_errorOfMove 26 = .ok (.iload_n 2, 1) := by decide +kernel
theorem dX3_errorOfMove_27 : decode cX3_errorOfMove 27 = .ok (.iadd, 1) := by decide +kernel
theorem dX3_errorOfMove_28 : decode cX3_errorOfMove 28 = .ok (.istore 5, 2) := by decide +kernel
theorem dX3_errorOfMove_30 : decode cX3_errorOfMove 30 = .ok (.iload_n 2, 1) := by decide +kernel
theorem dX3_errorOfMove_31 : decode cX3_errorOfMove 31 = .ok (.ifCond .le 34, 3) := by decide +kernel
theorem dX3_errorOfMove_34 : decode cX3_errorOfMove 34 = .ok (.aload_n 0, 1) := by decide +kernel
theorem dX3_errorOfMove_35 : decode cX3_errorOfMove 35 = .ok (.getfield 19, 3) := by decide +kernel
theorem dX3_errorOfMove_38 : decode cX3_errorOfMove 38 = .ok (.iload 5, 2) := by decide +kernel
theorem dX3_errorOfMove_40 : decode cX3_errorOfMove 40 = .ok (.iconst 1, 1) := by decide +kernel
theorem dX3_errorOfMove_41 : decode cX3_errorOfMove 41 = .ok (.isub, 1) := by decide +kernel
theorem dX3_errorOfMove_42 : decode cX3_errorOfMove 42 = .ok (.iaload, 1) := by decide +kernel
theorem dX3_errorOfMove_43 : decode cX3_errorOfMove 43 = .ok (.iload_n 3, 1) := by decide +kernel
theorem dX3_errorOfMove_44 : decode cX3_errorOfMove 44 = .ok (.if_icmp .ne 21, 3) := by decide +kernel
theorem dX3_errorOfMove_47 : decode cX3_errorOfMove 47 = .ok (.aload_n 0, 1) := by decide +kernel
theorem dX3_errorOfMove_48 : decode cX3_errorOfMove 48 = .ok (.getfield 22, 3) := by decide +kernel
theorem dX3_errorOfMove_51 : decode cX3_errorOfMove 51 = .ok (.iload 5, 2) := by decide +kernel
theorem dX3_errorOfMove_53 : decode cX3_errorOfMove 53 = .ok (.iconst 1, 1) := by decide +kernel
theorem dX3_errorOfMove_54 : decode cX3_errorOfMove 54 = .ok (.isub, 1) := by decide +kernel
theorem dX3_errorOfMove_55 : decode cX3_errorOfMove 55 = .ok (.iaload, 1) := by decide +kernel
theorem dX3_errorOfMove_56 : decode cX3_errorOfMove 56 = .ok (.iload 4, 2) := by decide +kernel
theorem dX3_errorOfMove_58 : decode cX3_errorOfMove 58 = .ok (.if_icmp .ne 7, 3) := by decide +kernel
theorem dX3_errorOfMove_61 : decode cX3_errorOfMove 61 = .ok (.iconst 1, 1) := by decide +kernel
theorem dX3_errorOfMove_62 : decode cX3_errorOfMove 62 = .ok (.goto 4, 3) := by decide +kernel
theorem dX3_errorOfMove_65 : decode cX3_errorOfMove 65 = .ok (.iconst 0, 1) := by decide +kernel
theorem dX3_errorOfMove_66 : decode cX3_errorOfMove 66 = .ok (.istore 6, 2) := by decide +kernel
theorem dX3_errorOfMove_68 : decode cX3_errorOfMove 68 = .ok (.iload_n 2, 1) := by decide +kernel
theorem dX3_errorOfMove_69 : decode cX3_errorOfMove 69 = .ok (.aload_n 0, 1) := by decide +kernel
theorem dX3_errorOfMove_70 : decode cX3_errorOfMove 70 = .ok (.getfield 16, 3) := by decide +kernel
theorem dX3_errorOfMove_73 : decode cX3_errorOfMove 73 = .ok (.iload_n 1, 1) := by decide +kernel
theorem dX3_errorOfMove_74 : decode cX3_errorOfMove 74 = .ok (.iaload, 1) := by decide +kernel
theorem dX3_errorOfMove_75 : decode cX3_errorOfMove 75 = .ok (.iconst 1, 1) := by decide +kernel
theorem dX3_errorOfMove_76 : decode cX3_errorOfMove 76 = .ok (.isub, 1) := by decide +kernel
theorem dX3_errorOfMove_77 : decode cX3_errorOfMove 77 = .ok (.if_icmp .ge 34, 3) := by decide +kernel
theorem dX3_errorOfMove_80 : decode cX3_errorOfMove 80 = .ok (.aload_n 0, 1) := by decide +kernel
theorem dX3_errorOfMove_81 : decode cX3_errorOfMove 81 = .ok (.getfield 19, 3) := by decide +kernel
theorem dX3_errorOfMove_84 : decode cX3_errorOfMove 84 = .ok (.iload 5, 2) := by decide +kernel
theorem dX3_errorOfMove_86 : decode cX3_errorOfMove 86 = .ok (.iconst 1, 1) := by decide +kernel
theorem dX3_errorOfMove_87 : decode cX3_errorOfMove 87 = .ok (.iadd, 1) := by decide +kernel
theorem dX3_errorOfMove_88 : decode cX3_errorOfMove 88 = .ok (.iaload, 1) := by decide +kernel
theorem dX3_errorOfMove_89 : decode cX3_errorOfMove 89 = .ok (.iload_n 3, 1) := by decide +kernel
theorem dX3_errorOfMove_90 : decode cX3_errorOfMove 90 = .ok (.if_icmp .ne 21, 3) := by decide +kernel
theorem dX3_errorOfMove_93 : decode cX3_errorOfMove 93 = .ok (.aload_n 0, 1) := by decide +kernel
theorem dX3_errorOfMove_94 : decode cX3_errorOfMove 94 = .ok (.getfield 22, 3) := by decide +kernel
theorem dX3_errorOfMove_97 : decode cX3_errorOfMove 97 = .ok (.iload 5, 2) := by decide +kernel
theorem dX3_errorOfMove_99 : decode cX3_errorOfMove 99 = .ok (.iconst 1, 1) := by decide +kernel
theorem dX3_errorOfMove_100 : decode cX3_errorOfMove 100 = .ok (.iadd, 1) := by decide +kernel
theorem dX3_errorOfMove_101 : decode cX3_errorOfMove 101 = .ok (.iaload, 1) := by decide +kernel
theorem dX3_errorOfMove_102 : decode cX3_errorOfMove 102 = .ok (.iload 4, 2) := by decide +kernel
theorem dX3_errorOfMove_104 : decode cX3_errorOfMove 104 = .ok (.if_icmp .ne 7, 3) := by decide +kernel
theorem dX3_errorOfMove_107 : decode cX3_errorOfMove 107 = .ok (.iconst 1, 1) := by decide +kernel
theorem dX3_errorOfMove_108 : decode cX3_errorOfMove 108 = .ok (.goto 4, 3) := by decide +kernel
theorem dX3_errorOfMove_111 : decode cX3_errorOfMove 111 = .ok (.iconst 0, 1) := by decide +kernel
theorem dX3_errorOfMove_112 : decode cX3_errorOfMove 112 = .ok (.istore 7, 2) := by decide +kernel
theorem dX3_errorOfMove_114 : decode cX3_errorOfMove 114 = .ok (.iload 6, 2) := by decide +kernel
theorem dX3_errorOfMove_116 : decode cX3_errorOfMove 116 = .ok (.ifCond .ne 8, 3) := by decide +kernel
theorem dX3_errorOfMove_119 : decode cX3_errorOfMove 119 = .ok (.iload 7, 2) := by decide +kernel
theorem dX3_errorOfMove_121 : decode cX3_errorOfMove 121 = .ok (.ifCond .eq 7, 3) := by decide +kernel
theorem dX3_errorOfMove_124 : decode cX3_errorOfMove 124 = .ok (.iconst 3, 1) := by decide +kernel
theorem dX3_errorOfMove_125 : decode cX3_errorOfMove 125 = .ok (.goto 4, 3) := by decide +kernel
theorem dX3_errorOfMove_128 : decode cX3_errorOfMove 128 = .ok (.iconst 0, 1) := by decide +kernel
theorem dX3_errorOfMove_129 : decode cX3_errorOfMove 129 = .ok (.ireturn, 1) := by decide +kernel
theorem dX3_agrees_0 : decode cX3_agrees 0 = .ok (.aload_n 0, 1) := by decide +kernel
theorem dX3_agrees_1 : decode cX3_agrees 1 = .ok (.getfield 25, 3) := by decide +kernel
theorem dX3_agrees_4 : decode cX3_agrees 4 = .ok (.bipush 8, 2) := by decide +kernel
theorem dX3_agrees_6 : decode cX3_agrees 6 = .ok (.iload_n 1, 1) := by decide +kernel
theorem dX3_agrees_7 : decode cX3_agrees 7 = .ok (.imul, 1) := by decide +kernel
theorem dX3_agrees_8 : decode cX3_agrees 8 = .ok (.iload_n 2, 1) := by decide +kernel
theorem dX3_agrees_9 : decode cX3_agrees 9 = .ok (.iadd, 1) := by decide +kernel
theorem dX3_agrees_10 : decode cX3_agrees 10 = .ok (.iload_n 3, 1) := by decide +kernel
theorem dX3_agrees_11 : decode cX3_agrees 11 = .ok (.bastore, 1) := by decide +kernel
theorem dX3_agrees_12 : decode cX3_agrees 12 = .ok (.aload_n 0, 1) := by decide +kernel
theorem dX3_agrees_13 : decode cX3_agrees 13 = .ok (.getfield 25, 3) := by decide +kernel
theorem dX3_agrees_16 : decode cX3_agrees 16 = .ok (.bipush 8, 2) := by decide +kernel
theorem dX3_agrees_18 : decode cX3_agrees 18 = .ok (.iload_n 2, 1) := by decide +kernel
theorem dX3_agrees_19 : decode cX3_agrees 19 = .ok (.imul, 1) := by decide +kernel
theorem dX3_agrees_20 : decode cX3_agrees 20 = .ok (.iload_n 1, 1) := by decide +kernel
theorem dX3_agrees_21 : decode cX3_agrees 21 = .ok (.iadd, 1) := by decide +kernel
theorem dX3_agrees_22 : decode cX3_agrees 22 = .ok (.iload_n 3, 1) := by decide +kernel
theorem dX3_agrees_23 : decode cX3_agrees 23 = .ok (.bastore, 1) := by decide +kernel
theorem dX3_agrees_24 : decode cX3_agrees 24 = .ok (.return_, 1) := by decide +kernel
set_option maxRecDepth 20000 in
theorem ggX3_move_X3_errorOfMove : GoodIn wsX3_move wsX3_errorOfMove := goodIn_r _ [9, 1, 2, 10, 11, 12, 13, 8, 14, 15, 16, 17, 18, 3, 19, 20, 21, 22, 23, 24, 60, 61, 62, 63, 64, 65, 66, 67, 68, 69, 70, 71, 72, 73, 74, 75, 76, 77, 78, 79, 80, 81] (by decide +kernel) (by decide +kernel)
set_option maxRecDepth 20000 in
theorem gX3_move_X3_errorOfMove : GoodIn wsX3_move (wsV RX3 112 RX3 yX3_errorOfMove wsX3_errorOfMove) := goodIn_app (goodIn_of _ (by decide +kernel)) ggX3_move_X3_errorOfMove
set_option maxRecDepth 20000 in
theorem ggX3_move_X3_holds : GoodIn wsX3_move wsX3_holds := goodIn_r _ [28, 29, 60, 61, 62, 63, 64, 65, 66, 67, 68, 69, 70, 71, 72, 73, 74, 75, 76, 77, 78, 79, 80, 81] (by decide +kernel) (by decide +kernel)
set_option maxRecDepth 20000 in
theorem gX3_move_X3_holds : GoodIn wsX3_move (wsV RX3 84 RX3 yX3_holds wsX3_holds) := goodIn_app (goodIn_of _ (by decide +kernel)) ggX3_move_X3_holds
set_option maxRecDepth 20000 in
theorem ggX3_move_X3_isWellNow : GoodIn wsX3_move wsX3_isWellNow := goodIn_r _ [33, 10, 34, 35, 36, 8, 37, 1, 2, 38, 39, 40, 41, 42, 43, 44, 45, 46, 47, 19, 20, 21, 48, 49, 50, 51, 52, 53, 54, 55, 60, 61, 62, 63, 64, 65, 66, 67, 68, 69, 70, 71, 72, 73, 74, 75, 76, 77, 78, 79, 80, 81] (by decide +kernel) (by decide +kernel)
set_option maxRecDepth 20000 in
theorem gX3_move_X3_isWellNow : GoodIn wsX3_move (wsV RX3 116 RX3 yX3_isWellNow wsX3_isWellNow) := goodIn_app (goodIn_of _ (by decide +kernel)) ggX3_move_X3_isWellNow
set_option maxRecDepth 20000 in
theorem ggX3_move_X3_agrees : GoodIn wsX3_move wsX3_agrees := goodIn_r _ [59, 4, 60, 61, 62, 63, 64, 65, 66, 67, 68, 69, 70, 71, 72, 73, 74, 75, 76, 77, 78, 79, 80, 81] (by decide +kernel) (by decide +kernel)
set_option maxRecDepth 20000 in
theorem gX3_move_X3_agrees : GoodIn wsX3_move (wsV RX3 119 RX3 yX3_agrees wsX3_agrees) := goodIn_app (goodIn_of _ (by decide +kernel)) ggX3_move_X3_agrees
theorem dX3_move_0 : decode cX3_move 0 = .ok (.aload_n 0, 1) := by decide +kernel
theorem dX3_move_1 : decode cX3_move 1 = .ok (.aload_n 0, 1) := by decide +kernel
theorem dX3_move_2 : decode cX3_move 2 = .ok (.iload_n 1, 1) := by decide +kernel
theorem dX3_move_3 : decode cX3_move 3 = .ok (.iload_n 2, 1) := by decide +kernel
theorem dX3_move_4 : decode cX3_move 4 = .ok (.iload_n 3, 1) := by decide +kernel
theorem dX3_move_5 : decode cX3_move 5 = .ok (.iload 4, 2) := by decide +kernel
theorem dX3_move_7 : decode cX3_move 7 = .ok (.invokevirtual 112, 3) := by decide +kernel
theorem dX3_move_10 : decode cX3_move 10 = .ok (.invokevirtual 84, 3) := by decide +kernel
theorem dX3_move_13 : decode cX3_move 13 = .ok (.ifCond .ne 5, 3) := by decide +kernel
theorem dX3_move_16 : decode cX3_move 16 = .ok (.iconst 0, 1) := by decide +kernel
theorem dX3_move_17 : decode cX3_move 17 = .ok (.ireturn, 1) := by decide +kernel
theorem dX3_move_18 : decode cX3_move 18 = .ok (.aload_n 0, 1) := by decide +kernel
theorem dX3_move_19 : decode cX3_move 19 = .ok (.getfield 19, 3) := by decide +kernel
theorem dX3_move_22 : decode cX3_move 22 = .ok (.bipush 8, 2) := by decide +kernel
theorem dX3_move_24 : decode cX3_move 24 = .ok (.iload_n 1, 1) := by decide +kernel
theorem dX3_move_25 : decode cX3_move 25 = .ok (.imul, 1) := by decide +kernel
theorem dX3_move_26 : decode cX3_move 26 = .ok (.iload_n 2, 1) := by decide +kernel
theorem dX3_move_27 : decode cX3_move 27 = .ok (.iadd, 1) := by decide +kernel
theorem dX3_move_28 : decode cX3_move 28 = .ok (.iload_n 3, 1) := by decide +kernel
theorem dX3_move_29 : decode cX3_move 29 = .ok (.iastore, 1) := by decide +kernel
theorem dX3_move_30 : decode cX3_move 30 = .ok (.aload_n 0, 1) := by decide +kernel
theorem dX3_move_31 : decode cX3_move 31 = .ok (.getfield 22, 3) := by decide +kernel
theorem dX3_move_34 : decode cX3_move 34 = .ok (.bipush 8, 2) := by decide +kernel
theorem dX3_move_36 : decode cX3_move 36 = .ok (.iload_n 1, 1) := by decide +kernel
theorem dX3_move_37 : decode cX3_move 37 = .ok (.imul, 1) := by decide +kernel
theorem dX3_move_38 : decode cX3_move 38 = .ok (.iload_n 2, 1) := by decide +kernel
theorem dX3_move_39 : decode cX3_move 39 = .ok (.iadd, 1) := by decide +kernel
theorem dX3_move_40 : decode cX3_move 40 = .ok (.iload 4, 2) := by decide +kernel
theorem dX3_move_42 : decode cX3_move 42 = .ok (.iastore, 1) := by decide +kernel
theorem dX3_move_43 : decode cX3_move 43 = .ok (.iconst 0, 1) := by decide +kernel
theorem dX3_move_44 : decode cX3_move 44 = .ok (.istore 5, 2) := by decide +kernel
theorem dX3_move_46 : decode cX3_move 46 = .ok (.iconst 0, 1) := by decide +kernel
theorem dX3_move_47 : decode cX3_move 47 = .ok (.istore 6, 2) := by decide +kernel
theorem dX3_move_49 : decode cX3_move 49 = .ok (.iload 6, 2) := by decide +kernel
theorem dX3_move_51 : decode cX3_move 51 = .ok (.aload_n 0, 1) := by decide +kernel
theorem dX3_move_52 : decode cX3_move 52 = .ok (.getfield 70, 3) := by decide +kernel
theorem dX3_move_55 : decode cX3_move 55 = .ok (.if_icmp .ge 45, 3) := by decide +kernel
theorem dX3_move_58 : decode cX3_move 58 = .ok (.aload_n 0, 1) := by decide +kernel
theorem dX3_move_59 : decode cX3_move 59 = .ok (.getfield 25, 3) := by decide +kernel
theorem dX3_move_62 : decode cX3_move 62 = .ok (.bipush 8, 2) := by decide +kernel
theorem dX3_move_64 : decode cX3_move 64 = .ok (.iload_n 1, 1) := by decide +kernel
theorem dX3_move_65 : decode cX3_move 65 = .ok (.imul, 1) := by decide +kernel
theorem dX3_move_66 : decode cX3_move 66 = .ok (.iload 6, 2) := by decide +kernel
theorem dX3_move_68 : decode cX3_move 68 = .ok (.iadd, 1) := by decide +kernel
theorem dX3_move_69 : decode cX3_move 69 = .ok (.baload, 1) := by decide +kernel
theorem dX3_move_70 : decode cX3_move 70 = .ok (.ifCond .eq 24, 3) := by decide +kernel
theorem dX3_move_73 : decode cX3_move 73 = .ok (.aload_n 0, 1) := by decide +kernel
theorem dX3_move_74 : decode cX3_move 74 = .ok (.iload_n 1, 1) := by decide +kernel
theorem dX3_move_75 : decode cX3_move 75 = .ok (.iload 6, 2) := by decide +kernel
theorem dX3_move_77 : decode cX3_move 77 = .ok (.invokevirtual 116, 3) := by decide +kernel
theorem dX3_move_80 : decode cX3_move 80 = .ok (.ifCond .ne 14, 3) := by decide +kernel
theorem dX3_move_83 : decode cX3_move 83 = .ok (.aload_n 0, 1) := by decide +kernel
theorem dX3_move_84 : decode cX3_move 84 = .ok (.iload_n 1, 1) := by decide +kernel
theorem dX3_move_85 : decode cX3_move 85 = .ok (.iload 6, 2) := by decide +kernel
theorem dX3_move_87 : decode cX3_move 87 = .ok (.iconst 0, 1) := by decide +kernel
theorem dX3_move_88 : decode cX3_move 88 = .ok (.invokevirtual 119, 3) := by decide +kernel
theorem dX3_move_91 : decode cX3_move 91 = .ok (.iinc 5 1, 3) := by decide +kernel
theorem dX3_move_94 : decode cX3_move 94 = .ok (.iinc 6 1, 3) := by decide +kernel
theorem dX3_move_97 : decode cX3_move 97 = .ok (.goto (-48), 3) := by decide +kernel
theorem dX3_move_100 : decode cX3_move 100 = .ok (.iload 5, 2) := by decide +kernel
theorem dX3_move_102 : decode cX3_move 102 = .ok (.ireturn, 1) := by decide +kernel
theorem dX3_cables_0 : decode cX3_cables 0 = .ok (.aload_n 0, 1) := by decide +kernel
theorem dX3_cables_1 : decode cX3_cables 1 = .ok (.iconst 0, 1) := by decide +kernel
theorem dX3_cables_2 : decode cX3_cables 2 = .ok (.putfield 62, 3) := by decide +kernel
theorem dX3_cables_5 : decode cX3_cables 5 = .ok (.aload_n 0, 1) := by decide +kernel
theorem dX3_cables_6 : decode cX3_cables 6 = .ok (.getfield 70, 3) := by decide +kernel
theorem dX3_cables_9 : decode cX3_cables 9 = .ok (.ireturn, 1) := by decide +kernel
set_option maxRecDepth 20000 in
theorem ggX3_point_X3_isPoint : GoodIn wsX3_point wsX3_isPoint := goodIn_r _ [7, 8, 9, 10, 11, 6, 12, 13, 14, 15, 16, 22, 23, 24, 25, 26, 27, 28, 29, 30, 31, 32, 33, 34, 35, 36, 37, 38, 39, 40, 41, 42, 43] (by decide +kernel) (by decide +kernel)
set_option maxRecDepth 20000 in
theorem gX3_point_X3_isPoint : GoodIn wsX3_point (wsV RX3 109 RX3 yX3_isPoint wsX3_isPoint) := goodIn_app (goodIn_of _ (by decide +kernel)) ggX3_point_X3_isPoint
set_option maxRecDepth 20000 in
theorem ggX3_point_X3_holds : GoodIn wsX3_point wsX3_holds := goodIn_r _ [20, 21, 22, 23, 24, 25, 26, 27, 28, 29, 30, 31, 32, 33, 34, 35, 36, 37, 38, 39, 40, 41, 42, 43] (by decide +kernel) (by decide +kernel)
set_option maxRecDepth 20000 in
theorem gX3_point_X3_holds : GoodIn wsX3_point (wsV RX3 84 RX3 yX3_holds wsX3_holds) := goodIn_app (goodIn_of _ (by decide +kernel)) ggX3_point_X3_holds
theorem dX3_point_0 : decode cX3_point 0 = .ok (.aload_n 0, 1) := by decide +kernel
theorem dX3_point_1 : decode cX3_point 1 = .ok (.aload_n 0, 1) := by decide +kernel
theorem dX3_point_2 : decode cX3_point 2 = .ok (.iload_n 1, 1) := by decide +kernel
theorem dX3_point_3 : decode cX3_point 3 = .ok (.iload_n 2, 1) := by decide +kernel
theorem dX3_point_4 : decode cX3_point 4 = .ok (.invokevirtual 109, 3) := by decide +kernel
theorem dX3_point_7 : decode cX3_point 7 = .ok (.ifCond .eq 7, 3) := by decide +kernel
theorem dX3_point_10 : decode cX3_point 10 = .ok (.iconst 0, 1) := by decide +kernel
theorem dX3_point_11 : decode cX3_point 11 = .ok (.goto 4, 3) := by decide +kernel
theorem dX3_point_14 : decode cX3_point 14 = .ok (.iconst 1, 1) := by decide +kernel
theorem dX3_point_15 : decode cX3_point 15 = .ok (.invokevirtual 84, 3) := by decide +kernel
theorem dX3_point_18 : decode cX3_point 18 = .ok (.ifCond .eq 32, 3) := by decide +kernel
theorem dX3_point_21 : decode cX3_point 21 = .ok (.bipush 100, 2) := by decide +kernel
theorem dX3_point_23 : decode cX3_point 23 = .ok (.aload_n 0, 1) := by decide +kernel
theorem dX3_point_24 : decode cX3_point 24 = .ok (.getfield 19, 3) := by decide +kernel
theorem dX3_point_27 : decode cX3_point 27 = .ok (.bipush 8, 2) := by decide +kernel
theorem dX3_point_29 : decode cX3_point 29 = .ok (.iload_n 1, 1) := by decide +kernel
theorem dX3_point_30 : decode cX3_point 30 = .ok (.imul, 1) := by decide +kernel
theorem dX3_point_31 : decode cX3_point 31 = .ok (.iload_n 2, 1) := by decide +kernel
theorem dX3_point_32 : decode cX3_point 32 = .ok (.iadd, 1) := by decide +kernel
theorem dX3_point_33 : decode cX3_point 33 = .ok (.iaload, 1) := by decide +kernel
theorem dX3_point_34 : decode cX3_point 34 = .ok (.imul, 1) := by decide +kernel
theorem dX3_point_35 : decode cX3_point 35 = .ok (.aload_n 0, 1) := by decide +kernel
theorem dX3_point_36 : decode cX3_point 36 = .ok (.getfield 22, 3) := by decide +kernel
theorem dX3_point_39 : decode cX3_point 39 = .ok (.bipush 8, 2) := by decide +kernel
theorem dX3_point_41 : decode cX3_point 41 = .ok (.iload_n 1, 1) := by decide +kernel
theorem dX3_point_42 : decode cX3_point 42 = .ok (.imul, 1) := by decide +kernel
theorem dX3_point_43 : decode cX3_point 43 = .ok (.iload_n 2, 1) := by decide +kernel
theorem dX3_point_44 : decode cX3_point 44 = .ok (.iadd, 1) := by decide +kernel
theorem dX3_point_45 : decode cX3_point 45 = .ok (.iaload, 1) := by decide +kernel
theorem dX3_point_46 : decode cX3_point 46 = .ok (.iadd, 1) := by decide +kernel
theorem dX3_point_47 : decode cX3_point 47 = .ok (.goto 4, 3) := by decide +kernel
theorem dX3_point_50 : decode cX3_point 50 = .ok (.iconst 0, 1) := by decide +kernel
theorem dX3_point_51 : decode cX3_point 51 = .ok (.ireturn, 1) := by decide +kernel
set_option maxRecDepth 20000 in
theorem ggX3_crossings_X3_areCables : GoodIn wsX3_crossings wsX3_areCables := goodIn_r _ [5, 6, 7, 8, 4, 9, 10, 11, 12, 13, 40, 41, 42, 43, 44, 45, 46, 47, 48, 49, 50, 51, 52, 53, 54, 55, 56, 57, 58, 59, 60, 61] (by decide +kernel) (by decide +kernel)
set_option maxRecDepth 20000 in
theorem gX3_crossings_X3_areCables : GoodIn wsX3_crossings (wsV RX3 123 RX3 yX3_areCables wsX3_areCables) := goodIn_app (goodIn_of _ (by decide +kernel)) ggX3_crossings_X3_areCables
set_option maxRecDepth 20000 in
theorem ggX3_crossings_X3_holds : GoodIn wsX3_crossings wsX3_holds := goodIn_r _ [17, 18, 40, 41, 42, 43, 44, 45, 46, 47, 48, 49, 50, 51, 52, 53, 54, 55, 56, 57, 58, 59, 60, 61] (by decide +kernel) (by decide +kernel)
set_option maxRecDepth 20000 in
theorem gX3_crossings_X3_holds : GoodIn wsX3_crossings (wsV RX3 84 RX3 yX3_holds wsX3_holds) := goodIn_app (goodIn_of _ (by decide +kernel)) ggX3_crossings_X3_holds
set_option maxRecDepth 20000 in
theorem ggX3_crossings_X3_crossed : GoodIn wsX3_crossings wsX3_crossed := goodIn_r _ [22, 23, 24, 25, 26, 4, 27, 28, 29, 30, 31, 32, 33, 34, 35, 36, 37, 38, 39, 11, 12, 13, 40, 41, 42, 43, 44, 45, 46, 47, 48, 49, 50, 51, 52, 53, 54, 55, 56, 57, 58, 59, 60, 61] (by decide +kernel) (by decide +kernel)
set_option maxRecDepth 20000 in
theorem gX3_crossings_X3_crossed : GoodIn wsX3_crossings (wsV RX3 105 RX3 yX3_crossed wsX3_crossed) := goodIn_app (goodIn_of _ (by decide +kernel)) ggX3_crossings_X3_crossed
theorem dX3_crossings_0 : decode cX3_crossings 0 = .ok (.aload_n 0, 1) := by decide +kernel
theorem dX3_crossings_1 : decode cX3_crossings 1 = .ok (.aload_n 0, 1) := by decide +kernel
theorem dX3_crossings_2 : decode cX3_crossings 2 = .ok (.iload_n 1, 1) := by decide +kernel
theorem dX3_crossings_3 : decode cX3_crossings 3 = .ok (.iload_n 2, 1) := by decide +kernel
theorem dX3_crossings_4 : decode cX3_crossings 4 = .ok (.invokevirtual 123, 3) := by decide +kernel
theorem dX3_crossings_7 : decode cX3_crossings 7 = .ok (.ifCond .eq 7, 3) := by decide +kernel
theorem dX3_crossings_10 : decode cX3_crossings 10 = .ok (.iconst 0, 1) := by decide +kernel
theorem dX3_crossings_11 : decode cX3_crossings 11 = .ok (.goto 4, 3) := by decide +kernel
theorem dX3_crossings_14 : decode cX3_crossings 14 = .ok (.iconst 1, 1) := by decide +kernel
theorem dX3_crossings_15 : decode cX3_crossings 15 = .ok (.invokevirtual 84, 3) := by decide +kernel
theorem dX3_crossings_18 : decode cX3_crossings 18 = .ok (.ifCond .eq 12, 3) := by decide +kernel
theorem dX3_crossings_21 : decode cX3_crossings 21 = .ok (.aload_n 0, 1) := by decide +kernel
theorem dX3_crossings_22 : decode cX3_crossings 22 = .ok (.iload_n 1, 1) := by decide +kernel
theorem dX3_crossings_23 : decode cX3_crossings 23 = .ok (.iload_n 2, 1) := by decide +kernel
