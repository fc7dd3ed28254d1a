section
-- ===== PART A: goes FIRST, ahead of the names: the tables' words, and 'selects' of the private methods out of them =====
/-- a private method of a class that the tables say can be made, by its rows of tables_1 -/
def lw_okq (q : MethodName × Nat) : Prop := (q.1.cls ≠ "java/lang/invoke/MethodHandle" ∧ q.1.cls ≠ "java/lang/invoke/VarHandle") ∧ Cond.instantiable q.1.cls q.2 ∈ tables_1 ∧ Cond.privateMethod q.1 ∈ tables_1 ∧ Cond.instanceMethod q.1 ∈ tables_1
theorem lw_p0 : lw_okq (⟨"CableOffice", "countBarePairs", "()I"⟩, 9) := ⟨⟨by decide +kernel, by decide +kernel⟩, List.mem_of_getElem? (i := 15) (by decide +kernel), List.mem_of_getElem? (i := 123) (by decide +kernel), List.mem_of_getElem? (i := 124) (by decide +kernel)⟩
theorem lw_p1 : lw_okq (⟨"java/lang/Throwable", "fillInStackTrace", "(I)Ljava/lang/Throwable;"⟩, 6) := ⟨⟨by decide +kernel, by decide +kernel⟩, List.mem_of_getElem? (i := 186) (by decide +kernel), List.mem_of_getElem? (i := 184) (by decide +kernel), List.mem_of_getElem? (i := 185) (by decide +kernel)⟩
theorem lw_p2 : lw_okq (⟨"CableOffice$Route", "isAt", "(III)Z"⟩, 3) := ⟨⟨by decide +kernel, by decide +kernel⟩, List.mem_of_getElem? (i := 23) (by decide +kernel), List.mem_of_getElem? (i := 216) (by decide +kernel), List.mem_of_getElem? (i := 217) (by decide +kernel)⟩
theorem lw_p3 : lw_okq (⟨"CableOffice$Route", "add", "(II)V"⟩, 3) := ⟨⟨by decide +kernel, by decide +kernel⟩, List.mem_of_getElem? (i := 23) (by decide +kernel), List.mem_of_getElem? (i := 236) (by decide +kernel), List.mem_of_getElem? (i := 237) (by decide +kernel)⟩
theorem lw_p4 : lw_okq (⟨"CableOffice$Route", "takeAllOf", "(LCableOffice$Route;)V"⟩, 3) := ⟨⟨by decide +kernel, by decide +kernel⟩, List.mem_of_getElem? (i := 23) (by decide +kernel), List.mem_of_getElem? (i := 248) (by decide +kernel), List.mem_of_getElem? (i := 249) (by decide +kernel)⟩
theorem lw_p5 : lw_okq (⟨"CableOffice", "recount", "(II)V"⟩, 9) := ⟨⟨by decide +kernel, by decide +kernel⟩, List.mem_of_getElem? (i := 15) (by decide +kernel), List.mem_of_getElem? (i := 255) (by decide +kernel), List.mem_of_getElem? (i := 256) (by decide +kernel)⟩
theorem lw_p6 : lw_okq (⟨"CableOffice$Route", "pieces", "()I"⟩, 3) := ⟨⟨by decide +kernel, by decide +kernel⟩, List.mem_of_getElem? (i := 23) (by decide +kernel), List.mem_of_getElem? (i := 262) (by decide +kernel), List.mem_of_getElem? (i := 263) (by decide +kernel)⟩
theorem lw_p7 : lw_okq (⟨"CableOffice$Route", "pieceCrosses", "(ILCableOffice$Route;I)Z"⟩, 3) := ⟨⟨by decide +kernel, by decide +kernel⟩, List.mem_of_getElem? (i := 23) (by decide +kernel), List.mem_of_getElem? (i := 266) (by decide +kernel), List.mem_of_getElem? (i := 267) (by decide +kernel)⟩
theorem lw_p8 : lw_okq (⟨"CableOffice$Route", "leftOf", "(I)I"⟩, 3) := ⟨⟨by decide +kernel, by decide +kernel⟩, List.mem_of_getElem? (i := 23) (by decide +kernel), List.mem_of_getElem? (i := 270) (by decide +kernel), List.mem_of_getElem? (i := 271) (by decide +kernel)⟩
theorem lw_p9 : lw_okq (⟨"CableOffice$Route", "lowOf", "(I)I"⟩, 3) := ⟨⟨by decide +kernel, by decide +kernel⟩, List.mem_of_getElem? (i := 23) (by decide +kernel), List.mem_of_getElem? (i := 275) (by decide +kernel), List.mem_of_getElem? (i := 276) (by decide +kernel)⟩
theorem lw_p10 : lw_okq (⟨"CableOffice$Route", "rightOf", "(I)I"⟩, 3) := ⟨⟨by decide +kernel, by decide +kernel⟩, List.mem_of_getElem? (i := 23) (by decide +kernel), List.mem_of_getElem? (i := 279) (by decide +kernel), List.mem_of_getElem? (i := 280) (by decide +kernel)⟩
theorem lw_p11 : lw_okq (⟨"CableOffice$Route", "highOf", "(I)I"⟩, 3) := ⟨⟨by decide +kernel, by decide +kernel⟩, List.mem_of_getElem? (i := 23) (by decide +kernel), List.mem_of_getElem? (i := 284) (by decide +kernel), List.mem_of_getElem? (i := 285) (by decide +kernel)⟩
theorem lw_p12 : lw_okq (⟨"CableOffice$Route", "boxMeets", "(IIIII)Z"⟩, 3) := ⟨⟨by decide +kernel, by decide +kernel⟩, List.mem_of_getElem? (i := 23) (by decide +kernel), List.mem_of_getElem? (i := 288) (by decide +kernel), List.mem_of_getElem? (i := 289) (by decide +kernel)⟩
theorem lw_p13 : lw_okq (⟨"CableOffice$Route", "lineDivides", "(ILCableOffice$Route;I)Z"⟩, 3) := ⟨⟨by decide +kernel, by decide +kernel⟩, List.mem_of_getElem? (i := 23) (by decide +kernel), List.mem_of_getElem? (i := 292) (by decide +kernel), List.mem_of_getElem? (i := 293) (by decide +kernel)⟩
theorem lw_p14 : lw_okq (⟨"CableOffice$Route", "sideOf", "(III)I"⟩, 3) := ⟨⟨by decide +kernel, by decide +kernel⟩, List.mem_of_getElem? (i := 23) (by decide +kernel), List.mem_of_getElem? (i := 296) (by decide +kernel), List.mem_of_getElem? (i := 297) (by decide +kernel)⟩
theorem lw_p15 : lw_okq (⟨"CableOffice$Route", "width", "(I)I"⟩, 3) := ⟨⟨by decide +kernel, by decide +kernel⟩, List.mem_of_getElem? (i := 23) (by decide +kernel), List.mem_of_getElem? (i := 300) (by decide +kernel), List.mem_of_getElem? (i := 301) (by decide +kernel)⟩
def lw_privs_1 : List (MethodName × Nat) := [(⟨"CableOffice", "countBarePairs", "()I"⟩, 9), (⟨"java/lang/Throwable", "fillInStackTrace", "(I)Ljava/lang/Throwable;"⟩, 6), (⟨"CableOffice$Route", "isAt", "(III)Z"⟩, 3), (⟨"CableOffice$Route", "add", "(II)V"⟩, 3), (⟨"CableOffice$Route", "takeAllOf", "(LCableOffice$Route;)V"⟩, 3), (⟨"CableOffice", "recount", "(II)V"⟩, 9), (⟨"CableOffice$Route", "pieces", "()I"⟩, 3), (⟨"CableOffice$Route", "pieceCrosses", "(ILCableOffice$Route;I)Z"⟩, 3), (⟨"CableOffice$Route", "leftOf", "(I)I"⟩, 3), (⟨"CableOffice$Route", "lowOf", "(I)I"⟩, 3), (⟨"CableOffice$Route", "rightOf", "(I)I"⟩, 3), (⟨"CableOffice$Route", "highOf", "(I)I"⟩, 3), (⟨"CableOffice$Route", "boxMeets", "(IIIII)Z"⟩, 3), (⟨"CableOffice$Route", "lineDivides", "(ILCableOffice$Route;I)Z"⟩, 3), (⟨"CableOffice$Route", "sideOf", "(III)I"⟩, 3), (⟨"CableOffice$Route", "width", "(I)I"⟩, 3)]
theorem lw_r1 : ∀ q ∈ lw_privs_1, lw_okq q := List.forall_mem_cons.mpr ⟨lw_p0, List.forall_mem_cons.mpr ⟨lw_p1, List.forall_mem_cons.mpr ⟨lw_p2, List.forall_mem_cons.mpr ⟨lw_p3, List.forall_mem_cons.mpr ⟨lw_p4, List.forall_mem_cons.mpr ⟨lw_p5, List.forall_mem_cons.mpr ⟨lw_p6, List.forall_mem_cons.mpr ⟨lw_p7, List.forall_mem_cons.mpr ⟨lw_p8, List.forall_mem_cons.mpr ⟨lw_p9, List.forall_mem_cons.mpr ⟨lw_p10, List.forall_mem_cons.mpr ⟨lw_p11, List.forall_mem_cons.mpr ⟨lw_p12, List.forall_mem_cons.mpr ⟨lw_p13, List.forall_mem_cons.mpr ⟨lw_p14, List.forall_mem_cons.mpr ⟨lw_p15, fun _ h => absurd h List.not_mem_nil⟩⟩⟩⟩⟩⟩⟩⟩⟩⟩⟩⟩⟩⟩⟩⟩
theorem lw_p16 : lw_okq (⟨"CableOffice$Route", "height", "(I)I"⟩, 3) := ⟨⟨by decide +kernel, by decide +kernel⟩, List.mem_of_getElem? (i := 23) (by decide +kernel), List.mem_of_getElem? (i := 304) (by decide +kernel), List.mem_of_getElem? (i := 305) (by decide +kernel)⟩
theorem lw_p17 : lw_okq (⟨"CableOffice$Route", "pieceIsSteepTo", "(ILCableOffice$Route;I)Z"⟩, 3) := ⟨⟨by decide +kernel, by decide +kernel⟩, List.mem_of_getElem? (i := 23) (by decide +kernel), List.mem_of_getElem? (i := 308) (by decide +kernel), List.mem_of_getElem? (i := 309) (by decide +kernel)⟩
theorem lw_p18 : lw_okq (⟨"CableOffice", "demandPoint", "(II)V"⟩, 9) := ⟨⟨by decide +kernel, by decide +kernel⟩, List.mem_of_getElem? (i := 15) (by decide +kernel), List.mem_of_getElem? (i := 323) (by decide +kernel), List.mem_of_getElem? (i := 324) (by decide +kernel)⟩
theorem lw_p19 : lw_okq (⟨"CableOffice", "demandCable", "(I)V"⟩, 9) := ⟨⟨by decide +kernel, by decide +kernel⟩, List.mem_of_getElem? (i := 15) (by decide +kernel), List.mem_of_getElem? (i := 327) (by decide +kernel), List.mem_of_getElem? (i := 328) (by decide +kernel)⟩
theorem lw_p20 : lw_okq (⟨"CableOffice", "dropIfNotWell", "(II)I"⟩, 9) := ⟨⟨by decide +kernel, by decide +kernel⟩, List.mem_of_getElem? (i := 15) (by decide +kernel), List.mem_of_getElem? (i := 349) (by decide +kernel), List.mem_of_getElem? (i := 350) (by decide +kernel)⟩
theorem lw_p21 : lw_okq (⟨"CableOffice", "crossWell", "(II)Z"⟩, 9) := ⟨⟨by decide +kernel, by decide +kernel⟩, List.mem_of_getElem? (i := 15) (by decide +kernel), List.mem_of_getElem? (i := 353) (by decide +kernel), List.mem_of_getElem? (i := 354) (by decide +kernel)⟩
theorem lw_p22 : lw_okq (⟨"CableOffice", "demandCables", "(II)V"⟩, 9) := ⟨⟨by decide +kernel, by decide +kernel⟩, List.mem_of_getElem? (i := 15) (by decide +kernel), List.mem_of_getElem? (i := 371) (by decide +kernel), List.mem_of_getElem? (i := 372) (by decide +kernel)⟩
theorem lw_p23 : lw_okq (⟨"CableOffice$Ground", "setBounds", "(IIII)V"⟩, 9) := ⟨⟨by decide +kernel, by decide +kernel⟩, List.mem_of_getElem? (i := 45) (by decide +kernel), List.mem_of_getElem? (i := 417) (by decide +kernel), List.mem_of_getElem? (i := 418) (by decide +kernel)⟩
theorem lw_p24 : lw_okq (⟨"CableOffice$Ground", "setMonths", "(II)V"⟩, 9) := ⟨⟨by decide +kernel, by decide +kernel⟩, List.mem_of_getElem? (i := 45) (by decide +kernel), List.mem_of_getElem? (i := 421) (by decide +kernel), List.mem_of_getElem? (i := 422) (by decide +kernel)⟩
theorem lw_p25 : lw_okq (⟨"CableOffice", "demandGround", "(I)V"⟩, 9) := ⟨⟨by decide +kernel, by decide +kernel⟩, List.mem_of_getElem? (i := 15) (by decide +kernel), List.mem_of_getElem? (i := 432) (by decide +kernel), List.mem_of_getElem? (i := 433) (by decide +kernel)⟩
theorem lw_p26 : lw_okq (⟨"CableOffice$Ground", "price", "()I"⟩, 9) := ⟨⟨by decide +kernel, by decide +kernel⟩, List.mem_of_getElem? (i := 45) (by decide +kernel), List.mem_of_getElem? (i := 440) (by decide +kernel), List.mem_of_getElem? (i := 441) (by decide +kernel)⟩
theorem lw_p27 : lw_okq (⟨"CableOffice$Ground", "isShutIn", "(I)Z"⟩, 9) := ⟨⟨by decide +kernel, by decide +kernel⟩, List.mem_of_getElem? (i := 45) (by decide +kernel), List.mem_of_getElem? (i := 451) (by decide +kernel), List.mem_of_getElem? (i := 452) (by decide +kernel)⟩
theorem lw_p28 : lw_okq (⟨"CableOffice", "demandPiece", "(II)V"⟩, 9) := ⟨⟨by decide +kernel, by decide +kernel⟩, List.mem_of_getElem? (i := 15) (by decide +kernel), List.mem_of_getElem? (i := 462) (by decide +kernel), List.mem_of_getElem? (i := 463) (by decide +kernel)⟩
theorem lw_p29 : lw_okq (⟨"CableOffice$Route", "pieceMeets", "(ILCableOffice$Ground;)Z"⟩, 3) := ⟨⟨by decide +kernel, by decide +kernel⟩, List.mem_of_getElem? (i := 23) (by decide +kernel), List.mem_of_getElem? (i := 467) (by decide +kernel), List.mem_of_getElem? (i := 468) (by decide +kernel)⟩
theorem lw_p30 : lw_okq (⟨"CableOffice$Route", "lineMeets", "(ILCableOffice$Ground;)Z"⟩, 3) := ⟨⟨by decide +kernel, by decide +kernel⟩, List.mem_of_getElem? (i := 23) (by decide +kernel), List.mem_of_getElem? (i := 471) (by decide +kernel), List.mem_of_getElem? (i := 472) (by decide +kernel)⟩
theorem lw_p31 : lw_okq (⟨"CableOffice", "liftedWith", "(II)J"⟩, 9) := ⟨⟨by decide +kernel, by decide +kernel⟩, List.mem_of_getElem? (i := 15) (by decide +kernel), List.mem_of_getElem? (i := 482) (by decide +kernel), List.mem_of_getElem? (i := 483) (by decide +kernel)⟩
def lw_privs_2 : List (MethodName × Nat) := [(⟨"CableOffice$Route", "height", "(I)I"⟩, 3), (⟨"CableOffice$Route", "pieceIsSteepTo", "(ILCableOffice$Route;I)Z"⟩, 3), (⟨"CableOffice", "demandPoint", "(II)V"⟩, 9), (⟨"CableOffice", "demandCable", "(I)V"⟩, 9), (⟨"CableOffice", "dropIfNotWell", "(II)I"⟩, 9), (⟨"CableOffice", "crossWell", "(II)Z"⟩, 9), (⟨"CableOffice", "demandCables", "(II)V"⟩, 9), (⟨"CableOffice$Ground", "setBounds", "(IIII)V"⟩, 9), (⟨"CableOffice$Ground", "setMonths", "(II)V"⟩, 9), (⟨"CableOffice", "demandGround", "(I)V"⟩, 9), (⟨"CableOffice$Ground", "price", "()I"⟩, 9), (⟨"CableOffice$Ground", "isShutIn", "(I)Z"⟩, 9), (⟨"CableOffice", "demandPiece", "(II)V"⟩, 9), (⟨"CableOffice$Route", "pieceMeets", "(ILCableOffice$Ground;)Z"⟩, 3), (⟨"CableOffice$Route", "lineMeets", "(ILCableOffice$Ground;)Z"⟩, 3), (⟨"CableOffice", "liftedWith", "(II)J"⟩, 9)]
theorem lw_r2 : ∀ q ∈ lw_privs_2, lw_okq q := List.forall_mem_cons.mpr ⟨lw_p16, List.forall_mem_cons.mpr ⟨lw_p17, List.forall_mem_cons.mpr ⟨lw_p18, List.forall_mem_cons.mpr ⟨lw_p19, List.forall_mem_cons.mpr ⟨lw_p20, List.forall_mem_cons.mpr ⟨lw_p21, List.forall_mem_cons.mpr ⟨lw_p22, List.forall_mem_cons.mpr ⟨lw_p23, List.forall_mem_cons.mpr ⟨lw_p24, List.forall_mem_cons.mpr ⟨lw_p25, List.forall_mem_cons.mpr ⟨lw_p26, List.forall_mem_cons.mpr ⟨lw_p27, List.forall_mem_cons.mpr ⟨lw_p28, List.forall_mem_cons.mpr ⟨lw_p29, List.forall_mem_cons.mpr ⟨lw_p30, List.forall_mem_cons.mpr ⟨lw_p31, fun _ h => absurd h List.not_mem_nil⟩⟩⟩⟩⟩⟩⟩⟩⟩⟩⟩⟩⟩⟩⟩⟩
theorem lw_p32 : lw_okq (⟨"CableOffice", "lyingOn", "(JII)J"⟩, 9) := ⟨⟨by decide +kernel, by decide +kernel⟩, List.mem_of_getElem? (i := 15) (by decide +kernel), List.mem_of_getElem? (i := 489) (by decide +kernel), List.mem_of_getElem? (i := 490) (by decide +kernel)⟩
theorem lw_p33 : lw_okq (⟨"CableOffice", "liesOnLifted", "(JIII)Z"⟩, 9) := ⟨⟨by decide +kernel, by decide +kernel⟩, List.mem_of_getElem? (i := 15) (by decide +kernel), List.mem_of_getElem? (i := 493) (by decide +kernel), List.mem_of_getElem? (i := 494) (by decide +kernel)⟩
theorem lw_p34 : lw_okq (⟨"CableOffice", "isPossible", "(J)Z"⟩, 9) := ⟨⟨by decide +kernel, by decide +kernel⟩, List.mem_of_getElem? (i := 15) (by decide +kernel), List.mem_of_getElem? (i := 513) (by decide +kernel), List.mem_of_getElem? (i := 514) (by decide +kernel)⟩
theorem lw_p35 : lw_okq (⟨"CableOffice", "costOf", "(JI)I"⟩, 9) := ⟨⟨by decide +kernel, by decide +kernel⟩, List.mem_of_getElem? (i := 15) (by decide +kernel), List.mem_of_getElem? (i := 517) (by decide +kernel), List.mem_of_getElem? (i := 518) (by decide +kernel)⟩
theorem lw_p36 : lw_okq (⟨"CableOffice", "isOwed", "(JLCableOffice$Ground;I)Z"⟩, 9) := ⟨⟨by decide +kernel, by decide +kernel⟩, List.mem_of_getElem? (i := 15) (by decide +kernel), List.mem_of_getElem? (i := 521) (by decide +kernel), List.mem_of_getElem? (i := 522) (by decide +kernel)⟩
theorem lw_p37 : lw_okq (⟨"CableOffice", "isMetByAny", "(JLCableOffice$Ground;)Z"⟩, 9) := ⟨⟨by decide +kernel, by decide +kernel⟩, List.mem_of_getElem? (i := 15) (by decide +kernel), List.mem_of_getElem? (i := 525) (by decide +kernel), List.mem_of_getElem? (i := 526) (by decide +kernel)⟩
theorem lw_p38 : lw_okq (⟨"CableOffice", "payGrounds", "(JI)V"⟩, 9) := ⟨⟨by decide +kernel, by decide +kernel⟩, List.mem_of_getElem? (i := 15) (by decide +kernel), List.mem_of_getElem? (i := 537) (by decide +kernel), List.mem_of_getElem? (i := 538) (by decide +kernel)⟩
theorem lw_p39 : lw_okq (⟨"CableOfficeModel", "holds", "(I)Z"⟩, 22) := ⟨⟨by decide +kernel, by decide +kernel⟩, List.mem_of_getElem? (i := 548) (by decide +kernel), List.mem_of_getElem? (i := 635) (by decide +kernel), List.mem_of_getElem? (i := 636) (by decide +kernel)⟩
theorem lw_p40 : lw_okq (⟨"CableOfficeModel", "errorOfMove", "(IIII)I"⟩, 22) := ⟨⟨by decide +kernel, by decide +kernel⟩, List.mem_of_getElem? (i := 548) (by decide +kernel), List.mem_of_getElem? (i := 647) (by decide +kernel), List.mem_of_getElem? (i := 648) (by decide +kernel)⟩
theorem lw_p41 : lw_okq (⟨"CableOfficeModel", "isPoint", "(II)Z"⟩, 22) := ⟨⟨by decide +kernel, by decide +kernel⟩, List.mem_of_getElem? (i := 548) (by decide +kernel), List.mem_of_getElem? (i := 651) (by decide +kernel), List.mem_of_getElem? (i := 652) (by decide +kernel)⟩
theorem lw_p42 : lw_okq (⟨"CableOfficeModel", "isCable", "(I)Z"⟩, 22) := ⟨⟨by decide +kernel, by decide +kernel⟩, List.mem_of_getElem? (i := 548) (by decide +kernel), List.mem_of_getElem? (i := 655) (by decide +kernel), List.mem_of_getElem? (i := 656) (by decide +kernel)⟩
theorem lw_p43 : lw_okq (⟨"CableOfficeModel", "isWellNow", "(II)Z"⟩, 22) := ⟨⟨by decide +kernel, by decide +kernel⟩, List.mem_of_getElem? (i := 548) (by decide +kernel), List.mem_of_getElem? (i := 659) (by decide +kernel), List.mem_of_getElem? (i := 660) (by decide +kernel)⟩
theorem lw_p44 : lw_okq (⟨"CableOfficeModel", "doCross", "(II)Z"⟩, 22) := ⟨⟨by decide +kernel, by decide +kernel⟩, List.mem_of_getElem? (i := 548) (by decide +kernel), List.mem_of_getElem? (i := 663) (by decide +kernel), List.mem_of_getElem? (i := 664) (by decide +kernel)⟩
theorem lw_p45 : lw_okq (⟨"CableOfficeModel", "meets", "(IIIII)Z"⟩, 22) := ⟨⟨by decide +kernel, by decide +kernel⟩, List.mem_of_getElem? (i := 548) (by decide +kernel), List.mem_of_getElem? (i := 667) (by decide +kernel), List.mem_of_getElem? (i := 668) (by decide +kernel)⟩
theorem lw_p46 : lw_okq (⟨"CableOfficeModel", "isSteep", "(II)Z"⟩, 22) := ⟨⟨by decide +kernel, by decide +kernel⟩, List.mem_of_getElem? (i := 548) (by decide +kernel), List.mem_of_getElem? (i := 677) (by decide +kernel), List.mem_of_getElem? (i := 678) (by decide +kernel)⟩
theorem lw_p47 : lw_okq (⟨"CableOfficeModel", "crossed", "(II)I"⟩, 22) := ⟨⟨by decide +kernel, by decide +kernel⟩, List.mem_of_getElem? (i := 548) (by decide +kernel), List.mem_of_getElem? (i := 681) (by decide +kernel), List.mem_of_getElem? (i := 682) (by decide +kernel)⟩
def lw_privs_3 : List (MethodName × Nat) := [(⟨"CableOffice", "lyingOn", "(JII)J"⟩, 9), (⟨"CableOffice", "liesOnLifted", "(JIII)Z"⟩, 9), (⟨"CableOffice", "isPossible", "(J)Z"⟩, 9), (⟨"CableOffice", "costOf", "(JI)I"⟩, 9), (⟨"CableOffice", "isOwed", "(JLCableOffice$Ground;I)Z"⟩, 9), (⟨"CableOffice", "isMetByAny", "(JLCableOffice$Ground;)Z"⟩, 9), (⟨"CableOffice", "payGrounds", "(JI)V"⟩, 9), (⟨"CableOfficeModel", "holds", "(I)Z"⟩, 22), (⟨"CableOfficeModel", "errorOfMove", "(IIII)I"⟩, 22), (⟨"CableOfficeModel", "isPoint", "(II)Z"⟩, 22), (⟨"CableOfficeModel", "isCable", "(I)Z"⟩, 22), (⟨"CableOfficeModel", "isWellNow", "(II)Z"⟩, 22), (⟨"CableOfficeModel", "doCross", "(II)Z"⟩, 22), (⟨"CableOfficeModel", "meets", "(IIIII)Z"⟩, 22), (⟨"CableOfficeModel", "isSteep", "(II)Z"⟩, 22), (⟨"CableOfficeModel", "crossed", "(II)I"⟩, 22)]
theorem lw_r3 : ∀ q ∈ lw_privs_3, lw_okq q := List.forall_mem_cons.mpr ⟨lw_p32, List.forall_mem_cons.mpr ⟨lw_p33, List.forall_mem_cons.mpr ⟨lw_p34, List.forall_mem_cons.mpr ⟨lw_p35, List.forall_mem_cons.mpr ⟨lw_p36, List.forall_mem_cons.mpr ⟨lw_p37, List.forall_mem_cons.mpr ⟨lw_p38, List.forall_mem_cons.mpr ⟨lw_p39, List.forall_mem_cons.mpr ⟨lw_p40, List.forall_mem_cons.mpr ⟨lw_p41, List.forall_mem_cons.mpr ⟨lw_p42, List.forall_mem_cons.mpr ⟨lw_p43, List.forall_mem_cons.mpr ⟨lw_p44, List.forall_mem_cons.mpr ⟨lw_p45, List.forall_mem_cons.mpr ⟨lw_p46, List.forall_mem_cons.mpr ⟨lw_p47, fun _ h => absurd h List.not_mem_nil⟩⟩⟩⟩⟩⟩⟩⟩⟩⟩⟩⟩⟩⟩⟩⟩
theorem lw_p48 : lw_okq (⟨"CableOfficeModel", "agrees", "(IIZ)V"⟩, 22) := ⟨⟨by decide +kernel, by decide +kernel⟩, List.mem_of_getElem? (i := 548) (by decide +kernel), List.mem_of_getElem? (i := 685) (by decide +kernel), List.mem_of_getElem? (i := 686) (by decide +kernel)⟩
theorem lw_p49 : lw_okq (⟨"CableOfficeModel", "areCables", "(II)Z"⟩, 22) := ⟨⟨by decide +kernel, by decide +kernel⟩, List.mem_of_getElem? (i := 548) (by decide +kernel), List.mem_of_getElem? (i := 701) (by decide +kernel), List.mem_of_getElem? (i := 702) (by decide +kernel)⟩
theorem lw_p50 : lw_okq (⟨"CableOfficeModel", "bareNow", "()I"⟩, 22) := ⟨⟨by decide +kernel, by decide +kernel⟩, List.mem_of_getElem? (i := 548) (by decide +kernel), List.mem_of_getElem? (i := 717) (by decide +kernel), List.mem_of_getElem? (i := 718) (by decide +kernel)⟩
theorem lw_p51 : lw_okq (⟨"CableOfficeModel", "isBare", "(II)Z"⟩, 22) := ⟨⟨by decide +kernel, by decide +kernel⟩, List.mem_of_getElem? (i := 548) (by decide +kernel), List.mem_of_getElem? (i := 721) (by decide +kernel), List.mem_of_getElem? (i := 722) (by decide +kernel)⟩
theorem lw_p52 : lw_okq (⟨"CableOfficeModel", "isGround", "(I)Z"⟩, 22) := ⟨⟨by decide +kernel, by decide +kernel⟩, List.mem_of_getElem? (i := 548) (by decide +kernel), List.mem_of_getElem? (i := 744) (by decide +kernel), List.mem_of_getElem? (i := 745) (by decide +kernel)⟩
theorem lw_p53 : lw_okq (⟨"CableOfficeModel", "price", "(I)I"⟩, 22) := ⟨⟨by decide +kernel, by decide +kernel⟩, List.mem_of_getElem? (i := 548) (by decide +kernel), List.mem_of_getElem? (i := 749) (by decide +kernel), List.mem_of_getElem? (i := 750) (by decide +kernel)⟩
theorem lw_p54 : lw_okq (⟨"CableOfficeModel", "isClosedNow", "(II)Z"⟩, 22) := ⟨⟨by decide +kernel, by decide +kernel⟩, List.mem_of_getElem? (i := 548) (by decide +kernel), List.mem_of_getElem? (i := 757) (by decide +kernel), List.mem_of_getElem? (i := 758) (by decide +kernel)⟩
theorem lw_p55 : lw_okq (⟨"CableOfficeModel", "isPiece", "(II)Z"⟩, 22) := ⟨⟨by decide +kernel, by decide +kernel⟩, List.mem_of_getElem? (i := 548) (by decide +kernel), List.mem_of_getElem? (i := 765) (by decide +kernel), List.mem_of_getElem? (i := 766) (by decide +kernel)⟩
theorem lw_p56 : lw_okq (⟨"CableOfficeModel", "doTouch", "(II)Z"⟩, 22) := ⟨⟨by decide +kernel, by decide +kernel⟩, List.mem_of_getElem? (i := 548) (by decide +kernel), List.mem_of_getElem? (i := 769) (by decide +kernel), List.mem_of_getElem? (i := 770) (by decide +kernel)⟩
theorem lw_p57 : lw_okq (⟨"CableOfficeModel", "lifts", "(I)I"⟩, 22) := ⟨⟨by decide +kernel, by decide +kernel⟩, List.mem_of_getElem? (i := 548) (by decide +kernel), List.mem_of_getElem? (i := 777) (by decide +kernel), List.mem_of_getElem? (i := 778) (by decide +kernel)⟩
theorem lw_p58 : lw_okq (⟨"CableOfficeModel", "repaired", "(IIZ)I"⟩, 22) := ⟨⟨by decide +kernel, by decide +kernel⟩, List.mem_of_getElem? (i := 548) (by decide +kernel), List.mem_of_getElem? (i := 785) (by decide +kernel), List.mem_of_getElem? (i := 786) (by decide +kernel)⟩
theorem lw_p59 : lw_okq (⟨"CableOfficeModel", "isPossible", "(I)Z"⟩, 22) := ⟨⟨by decide +kernel, by decide +kernel⟩, List.mem_of_getElem? (i := 548) (by decide +kernel), List.mem_of_getElem? (i := 789) (by decide +kernel), List.mem_of_getElem? (i := 790) (by decide +kernel)⟩
theorem lw_p60 : lw_okq (⟨"CableOfficeModel", "isTouched", "(III)Z"⟩, 22) := ⟨⟨by decide +kernel, by decide +kernel⟩, List.mem_of_getElem? (i := 548) (by decide +kernel), List.mem_of_getElem? (i := 793) (by decide +kernel), List.mem_of_getElem? (i := 794) (by decide +kernel)⟩
theorem lw_p61 : lw_okq (⟨"CableOfficeModel", "errorOfRepair", "(III)I"⟩, 22) := ⟨⟨by decide +kernel, by decide +kernel⟩, List.mem_of_getElem? (i := 548) (by decide +kernel), List.mem_of_getElem? (i := 801) (by decide +kernel), List.mem_of_getElem? (i := 802) (by decide +kernel)⟩
def lw_privs_4 : List (MethodName × Nat) := [(⟨"CableOfficeModel", "agrees", "(IIZ)V"⟩, 22), (⟨"CableOfficeModel", "areCables", "(II)Z"⟩, 22), (⟨"CableOfficeModel", "bareNow", "()I"⟩, 22), (⟨"CableOfficeModel", "isBare", "(II)Z"⟩, 22), (⟨"CableOfficeModel", "isGround", "(I)Z"⟩, 22), (⟨"CableOfficeModel", "price", "(I)I"⟩, 22), (⟨"CableOfficeModel", "isClosedNow", "(II)Z"⟩, 22), (⟨"CableOfficeModel", "isPiece", "(II)Z"⟩, 22), (⟨"CableOfficeModel", "doTouch", "(II)Z"⟩, 22), (⟨"CableOfficeModel", "lifts", "(I)I"⟩, 22), (⟨"CableOfficeModel", "repaired", "(IIZ)I"⟩, 22), (⟨"CableOfficeModel", "isPossible", "(I)Z"⟩, 22), (⟨"CableOfficeModel", "isTouched", "(III)Z"⟩, 22), (⟨"CableOfficeModel", "errorOfRepair", "(III)I"⟩, 22)]
theorem lw_r4 : ∀ q ∈ lw_privs_4, lw_okq q := List.forall_mem_cons.mpr ⟨lw_p48, List.forall_mem_cons.mpr ⟨lw_p49, List.forall_mem_cons.mpr ⟨lw_p50, List.forall_mem_cons.mpr ⟨lw_p51, List.forall_mem_cons.mpr ⟨lw_p52, List.forall_mem_cons.mpr ⟨lw_p53, List.forall_mem_cons.mpr ⟨lw_p54, List.forall_mem_cons.mpr ⟨lw_p55, List.forall_mem_cons.mpr ⟨lw_p56, List.forall_mem_cons.mpr ⟨lw_p57, List.forall_mem_cons.mpr ⟨lw_p58, List.forall_mem_cons.mpr ⟨lw_p59, List.forall_mem_cons.mpr ⟨lw_p60, List.forall_mem_cons.mpr ⟨lw_p61, fun _ h => absurd h List.not_mem_nil⟩⟩⟩⟩⟩⟩⟩⟩⟩⟩⟩⟩⟩⟩
def lw_privs : List (MethodName × Nat) := lw_privs_1 ++ (lw_privs_2 ++ (lw_privs_3 ++ (lw_privs_4)))
def lw_tbl : List Cond := k2_sels lw_privs ++ tables_1
theorem lw_privs_ok : ∀ q ∈ lw_privs, lw_okq q := by
  show ∀ q ∈ lw_privs_1 ++ (lw_privs_2 ++ (lw_privs_3 ++ (lw_privs_4))), lw_okq q
  exact List.forall_mem_append.mpr ⟨lw_r1, List.forall_mem_append.mpr ⟨lw_r2, List.forall_mem_append.mpr ⟨lw_r3, lw_r4⟩⟩⟩
end
section
/-! ===== BEGIN words of one list among another's, by their places ===== -/
theorem goodIn_r {big : List Cond} (ws : List Cond) (ps : List Nat) (hp : ws = ps.filterMap (fun i => big[i]?)) (h : ws.all goodWord = true) : GoodIn big ws := by
  intro w hw
  have h1 := List.all_eq_true.mp h w hw
  rw [hp] at hw
  obtain ⟨i, -, hi⟩ := List.mem_filterMap.mp hw
  have hm : w ∈ big := by first | exact List.mem_of_getElem? hi | exact List.getElem?_mem hi
  exact ⟨hm, good_of_word h1⟩
theorem goodIn_app {big a b : List Cond} (ha : GoodIn big a) (hb : GoodIn big b) : GoodIn big (a ++ b) := fun w h => (List.mem_append.mp h).elim (ha w) (hb w)
theorem goodIn_ca {big a b : List Cond} {c : Cond} (ha : GoodIn big (c :: a)) (hb : GoodIn big b) : GoodIn big (c :: (a ++ b)) := fun w h => (List.mem_cons.mp h).elim (fun e => ha w (List.mem_cons.mpr (Or.inl e))) (fun h => (List.mem_append.mp h).elim (fun h => ha w (List.mem_cons.mpr (Or.inr h))) (hb w))
theorem goodIn_sub {big ws : List Cond} (hm : ∀ w ∈ ws, w ∈ big) (h : ws.all goodWord = true) : GoodIn big ws := fun w hw => ⟨hm w hw, good_of_word (List.all_eq_true.mp h w hw)⟩
/-! ===== END ===== -/

/-! ===== BEGIN exceptions that leave a method, and their catching by the caller (launches without stack traces) ===== -/
section VXA
/-! The laws vx_back, vx_callV, vx_callS, vx_callSW, vx_throw0, vx_throwS follow proofs of the library, with one case more: JvmDerived/Free/Laws.lean (Back.of_free), Shelf42/LK1.lean (callV, callS), Shelf/KitTraced.lean (throwNew0V, throwNewS). -/
/-- where a method has thrown q: the class by its name, the cell, what was written, the world -/
def vx_T (XC : String → State → State → Prop) (st : State) (q : Addr) (t : State) (mc ms : Nat) (free : Addr → Prop) : Prop :=
  ∃ (E : String) (ce : Cell) (L : List Loc), XC E st t ∧ t.heap[q]? = some ce ∧ ce.vm = .none ∧ st.vm.findClass E = some ce.cls ∧ st.WarmedH t.vm ∧ st.sameButNew ({ t with vm := st.vm } : State) L mc ms ∧ ∀ z ∈ L, free z.base
def vx_Q (Qc : Array Value → State → Outcome → State → Prop) (XC : String → State → State → Prop) (mc ms : Nat) (free : Addr → Prop) : Array Value → State → Outcome → State → Prop := fun a st o t =>
  (Qc a st o t ∧ ∃ L, FrameEnd st o t L mc ms ∧ ∀ q ∈ L, free q.base) ∨ ∃ q, o = .threw q ∧ vx_T XC st q t mc ms free
/-- a callee that returns or throws -/
def vx_Met (l : Launch) (y : MethodName) (ws : List Cond) (rm : Room) (Pc : Array Value → State → Prop) (Qc : Array Value → State → Outcome → State → Prop) (XC : String → State → State → Prop) (mc ms : Nat) (free : Addr → Prop) : Prop :=
  MetFree l y (headSpec ws rm) Pc (fun _ _ _ _ _ => True) (vx_Q Qc XC mc ms free)
def vx_Post (XC : String → State → State → Prop) (mc ms : Nat) (free : Addr → Prop) : Pt → Array Value → Addr → Pt → Prop := fun A a q B =>
  ∃ (g : JFrame) (mk : MethodId) (t : State) (L : List Loc) (E : String) (ce : Cell), B.U.heap = t.heap ∧ B.U.vm = t.vm ∧ XC E (A.U.calling g mk a) t ∧ t.heap[q]? = some ce ∧ ce.vm = .none ∧ A.U.vm.findClass E = some ce.cls ∧ B.locs = A.locs ++ L ∧ (∀ z ∈ L, free z.base) ∧ B.cells = A.cells + mc ∧ B.slots = A.slots + ms
def vx_Back (l : Launch) (R : Room) (p : Program) (e : Env) (below : List Frame) (s : State) (sargs : Array Value) (y : MethodName) (len W9 : Nat)
    (Pre : Pt → Array Value → Prop) (Post : Pt → Array Value → Option Value → Pt → Prop) (PostX : Pt → Array Value → Addr → Pt → Prop) : Prop :=
  ∀ (m : MethodId) (meth : Method) (c : Code) (A : Pt) (g : JFrame) (ig : Instr) (mk : MethodId) (a : Array Value),
    Stand p l e R s m sargs below meth c A.U A.locs A.cells A.slots → g.method = m → g.locals.size = c.maxLocals → decode c.code g.pc = .ok (ig, len) →
    2 * g.monitorRoom + (g.stack.map fun v => v.category).sum ≤ W9 → A.U.methodNamed? y = some mk → Pre A a →
    (∃ (v : Option Value) (B : Pt), Stand p l e R s m sargs below meth c B.U B.locs B.cells B.slots ∧ Post A a v B ∧
      Steps p.tables e below (doInvoke e (A.U.setTop g) [] mk a).1 (B.U.setTop { g with pc := g.pc + len, stack := v.toList ++ g.stack })) ∨
    (∃ (q : Addr) (B : Pt), Stand p l e R s m sargs below meth c B.U B.locs B.cells B.slots ∧ PostX A a q B ∧
      Steps p.tables e below (doInvoke e (A.U.setTop g) [] mk a).1 ((B.U.setTop g).pushFrame (.throwing q)))
section Payer
variable {l : Launch} {R : Room} {p : Program} {e : Env} {below : List Frame} {s : State} {sargs : Array Value} {y : MethodName} {len W9 : Nat}
theorem vx_back {ws : List Cond} {rm : Room} {Pc : Array Value → State → Prop} {Qc : Array Value → State → Outcome → State → Prop} {XC : String → State → State → Prop} {mc ms : Nat} {free : Addr → Prop} {bytes : ByteArray} {maxL : Nat} {ret : Option FieldType}
    (hM : vx_Met l y ws rm Pc Qc XC mc ms free) (hblind : FrameBlind Pc) (hrc : rm.cells = mc) (hrs : rm.slots = ms)
    (hframes : rm.frames + 1 ≤ R.frames) (hlocals : W9 + (maxL + 11) + rm.locals ≤ R.locals)
    (hws : ∀ w ∈ ws, ∀ a' U, s.WarmedH U.vm → w.before a' U = true) (hcode : Cond.code y bytes maxL ret ∈ ws) (hinit : ∀ a' U, s.WarmedH U.vm → (Cond.initialized y.cls).before a' U = true) :
    vx_Back l R p e below s sargs y len W9 (PreOf R mc ms Pc) (PostOf Qc mc ms free) (vx_Post XC mc ms free) := by
  intro m meth c A g ig mk a X hg hsize hdg hW hn hp
  have h1 : (headSpec ws rm).pre.before a A.U = true := atoms_intro fun w hw => hws w hw _ _ X.warmed
  have h2 : (Cond.code y bytes maxL ret).before a A.U = true := hws _ hcode _ _ X.warmed
  have h3 : (Cond.initialized y.cls).before a A.U = true := hinit _ _ X.warmed
  have h4 : A.cells + (headSpec ws rm).room.cells ≤ R.cells := by rw [show (headSpec ws rm).room.cells = mc from hrc]; exact hp.1
  have h5 : A.slots + (headSpec ws rm).room.slots ≤ R.slots := by rw [show (headSpec ws rm).room.slots = ms from hrs]; exact hp.2.1
  have hPc : Pc a (A.U.calling g mk a) := hblind _ _ _ _ hp.2.2
  obtain ⟨U, Ls, c0, s0⟩ := A
  dsimp only [Pt.U, Pt.locs, Pt.cells, Pt.slots] at h1 h2 h3 h4 h5 X hn hPc ⊢
  obtain ⟨methY, cY, hmY, hcY, -, hlY, -, -, -, -⟩ := Cond.code_spec hn h2
  obtain ⟨kY, hkY, -⟩ := className_of_methodNamed hn
  have hinitY : kY.init = .initialized := Cond.initialized_spec (findClass_of_methodNamed hn) hkY h3
  have h : At U g.method c below := by rw [hg]; exact X.here
  have hlocals9 : W9 + (maxL + 11) + (headSpec ws rm).room.locals ≤ R.locals := hlocals
  have happ : (headSpec ws rm).appliesLoose y e.platform (U.calling g mk a) = true :=
    Spec.appliesLoose_calling (g := g) h hdg hn hkY hinitY
      (X.room_calling (g := g) (R' := (headSpec ws rm).room) hsize hmY hcY hframes (by rw [hlY]; omega) h4 h5) h1
  obtain ⟨mid, hmid⟩ := h.above
  have hfr : (U.setTop g).frames = (.java g :: mid) ++ below := by rw [State.frames_setTop' g h.top, hmid]; rfl
  obtain ⟨o, s₂, hsteps, -, hend, hq⟩ := Steps.callFree hM p X.admits X.cas X.clock (acts := []) hfr happ hPc trivial
  have hq' : vx_Q Qc XC mc ms free a (U.calling g mk a) o s₂ := hq
  rw [State.frames_setTop' g h.top] at hend
  obtain ⟨g₀, hg0⟩ := Option.isSome_iff_exists.mp h.top
  obtain ⟨r, hr⟩ := State.topJava?_eq_some.mp hg0
  have hr' : (({ U with heap := s₂.heap, slotsUsed := s₂.slotsUsed } : State).setVm s₂.vm).frames = .java g₀ :: r := hr
  rcases hq' with ⟨hqc, L, hfe, hL⟩ | ⟨q, rfl, E, ce, L, hx, hce, hcv, hcl, hW₂, hsm, hL⟩
  · obtain ⟨⟨v, rfl⟩, hW₂, e2, q2, q3, q4, q5, q6⟩ := id hfe
    have e3 : s₂ = ({ (U.calling g mk a).setFrames s₂.frames with heap := s₂.heap, slotsUsed := s₂.slotsUsed } : State).setVm s₂.vm := by
      have : s₂ = ({ s₂ with vm := (U.calling g mk a).vm } : State).setVm s₂.vm := rfl
      rw [e2] at this
      exact this
    obtain ⟨c₂, i₂, len₂, hc₂, hd₂, hf₂⟩ := hend
    have hW' : U.WarmedH s₂.vm := hW₂
    have hcc : c₂ = c := by
      have h1 : s₂.code? g.method = U.code? g.method := by
        rw [State.code?_eq, State.code?_eq, hW'.alike.method?]
      exact Option.some.inj (hc₂.symm.trans (h1.trans h.code))
    subst hcc
    have hlen : len₂ = len := by rw [hdg] at hd₂; cases hd₂; rfl
    subst hlen
    have hs₂ : s₂ = (({ U with heap := s₂.heap, slotsUsed := s₂.slotsUsed } : State).setVm s₂.vm).setTop { g with pc := g.pc + len₂, stack := v.toList ++ g.stack } := by
      refine e3.trans ?_
      rw [hf₂, State.calling_eq h.top, State.setFrames_setFrames, State.setTop_of_frames _ hr', hr]
      rfl
    have hsame : U.sameButNew ({ U with heap := s₂.heap, slotsUsed := s₂.slotsUsed } : State) L mc ms := by
      refine ⟨?_, q2, q3, q4, q5, q6⟩
      obtain ⟨t, ht, -⟩ := State.frames_cons hr
      show ({ U with heap := s₂.heap, slotsUsed := s₂.slotsUsed } : State) = { U.setFrames U.frames with heap := s₂.heap, slotsUsed := s₂.slotsUsed }
      rw [State.setFrames_self ht]
    subst hg
    refine Or.inl ⟨v, ⟨(({ U with heap := s₂.heap, slotsUsed := s₂.slotsUsed } : State).setVm s₂.vm), Ls ++ L, c0 + mc, s0 + ms⟩,
      ⟨X.admits, X.cas, X.clock, X.frames, X.room, X.hears, X.method, X.code, (X.here.setHeapUsed s₂.heap s₂.slotsUsed).setVm hW'.alike, X.tail, State.WarmedH.trans X.warmed hW', X.limits, X.bytes, X.same.trans (hsame.setVm s.vm)⟩,
      ⟨g, mk, s₂, L, rfl, rfl, hqc, rfl, hL, rfl, rfl⟩, ?_⟩
    show Steps p.tables e below _ ((({ U with heap := s₂.heap, slotsUsed := s₂.slotsUsed } : State).setVm s₂.vm).setTop { g with pc := g.pc + len₂, stack := v.toList ++ g.stack })
    rw [← hs₂]
    exact hsteps
  · obtain ⟨e2, q2, q3, q4, q5, q6⟩ := id hsm
    have e3 : s₂ = ({ (U.calling g mk a).setFrames s₂.frames with heap := s₂.heap, slotsUsed := s₂.slotsUsed } : State).setVm s₂.vm := by
      have : s₂ = ({ s₂ with vm := (U.calling g mk a).vm } : State).setVm s₂.vm := rfl
      rw [e2] at this
      exact this
    have hf₂ : s₂.frames = .throwing q :: .java g :: U.frames.tail := hend
    have hW' : U.WarmedH s₂.vm := hW₂
    have hs₂ : s₂ = ((({ U with heap := s₂.heap, slotsUsed := s₂.slotsUsed } : State).setVm s₂.vm).setTop g).pushFrame (.throwing q) := by
      refine e3.trans ?_
      rw [hf₂, State.calling_eq h.top, State.setFrames_setFrames, State.pushFrame, State.frames_setTop _ hr', State.setTop_of_frames _ hr', State.setFrames_setFrames, hr]
      rfl
    have hsame : U.sameButNew ({ U with heap := s₂.heap, slotsUsed := s₂.slotsUsed } : State) L mc ms := by
      refine ⟨?_, q2, q3, q4, q5, q6⟩
      obtain ⟨t, ht, -⟩ := State.frames_cons hr
      show ({ U with heap := s₂.heap, slotsUsed := s₂.slotsUsed } : State) = { U.setFrames U.frames with heap := s₂.heap, slotsUsed := s₂.slotsUsed }
      rw [State.setFrames_self ht]
    subst hg
    refine Or.inr ⟨q, ⟨(({ U with heap := s₂.heap, slotsUsed := s₂.slotsUsed } : State).setVm s₂.vm), Ls ++ L, c0 + mc, s0 + ms⟩,
      ⟨X.admits, X.cas, X.clock, X.frames, X.room, X.hears, X.method, X.code, (X.here.setHeapUsed s₂.heap s₂.slotsUsed).setVm hW'.alike, X.tail, State.WarmedH.trans X.warmed hW', X.limits, X.bytes, X.same.trans (hsame.setVm s.vm)⟩,
      ⟨g, mk, s₂, L, E, ce, rfl, rfl, hx, hce, hcv, hcl, rfl, hL, rfl, rfl⟩, ?_⟩
    show Steps p.tables e below _ (((({ U with heap := s₂.heap, slotsUsed := s₂.slotsUsed } : State).setVm s₂.vm).setTop g).pushFrame (.throwing q))
    rw [← hs₂]
    exact hsteps
end Payer
section Calls
variable {p : Program} {l : Launch} {e : Env} {R : Room} {s : State} {m : MethodId} {args : Array Value} {below : List Frame} {meth : Method} {c : Code} {T : State} {locs : List Loc} {cells slots : Nat}
theorem vx_callV (X : Stand p l e R s m args below meth c T locs cells slots) (hexec : p.tables.exec = Jvm.exec) {own C : String} {index : Nat} {y : MethodName} {bytes : ByteArray} {maxL : Nat} {ret : Option FieldType}
    (hown : s.vm.findClass own = some m.cls) (hlink : (Cond.methodLink own index y).before args s = true) (hinst : (Cond.instanceMethod y).before args s = true) (hsel : (Cond.selects C y y).before args s = true)
    (hcode : (Cond.code y bytes maxL ret).before args s = true) (hy : y.cls ≠ "java/lang/invoke/MethodHandle" ∧ y.cls ≠ "java/lang/invoke/VarHandle")
    {W9 : Nat} {Pre : Pt → Array Value → Prop} {Post : Pt → Array Value → Option Value → Pt → Prop} {PostX : Pt → Array Value → Addr → Pt → Prop} (hK : vx_Back l R p e below s args y 3 W9 Pre Post PostX)
    {b : Addr} {cellB : Cell} (hcell : T.heap[b]? = some cellB) (hobj : cellB.vm.isStatics = false) (hcls : s.vm.findClass C = some cellB.cls)
    {g : JFrame} (hg : g.method = m) (hsize : g.locals.size = c.maxLocals) {argsL rest : List Value} (hlen : ∀ sig, parseMethodDescriptor y.desc = some sig → argsL.length = sig.parameters.length)
    (hstack : g.stack = argsL.reverse ++ .ref b :: rest) (hW : 2 * g.monitorRoom + (rest.map fun v => v.category).sum ≤ W9) (hdg : decode c.code g.pc = .ok (.invokevirtual index, 3))
    (hpre : ∀ vm₁, s.WarmedH vm₁ → Pre ⟨T.setVm vm₁, locs, cells, slots⟩ (Value.ref b :: argsL).toArray) :
    (∃ (v : Option Value) (vm₁ : Vm) (B : Pt), s.WarmedH vm₁ ∧ Stand p l e R s m args below meth c B.U B.locs B.cells B.slots ∧ Post ⟨T.setVm vm₁, locs, cells, slots⟩ (Value.ref b :: argsL).toArray v B ∧
      ∀ target, Steps p.tables e below (B.U.setTop { g with pc := g.pc + 3, stack := v.toList ++ rest }) target → Steps p.tables e below (T.setTop g) target) ∨
    (∃ (q : Addr) (vm₁ : Vm) (B : Pt), s.WarmedH vm₁ ∧ Stand p l e R s m args below meth c B.U B.locs B.cells B.slots ∧ PostX ⟨T.setVm vm₁, locs, cells, slots⟩ (Value.ref b :: argsL).toArray q B ∧
      Steps p.tables e below (T.setTop g) ((B.U.setTop { g with stack := rest }).pushFrame (.throwing q))) := by
  obtain ⟨mk, methM, hnamed, hmethM, hstM, habM⟩ := Cond.instanceMethod_spec hinst
  obtain ⟨methM', cM, hmethM', -, -, -, -, -, -, hsigM⟩ := Cond.code_spec hnamed hcode
  cases hmethM.symm.trans hmethM'
  obtain ⟨c2, r2, m2, q1, q2, q3, q4, kP, hkP, hkPi⟩ := Cond.selects_spec hsel
  cases hcls.symm.trans q1
  cases (State.methodFound?_of_named hnamed hy).symm.trans q2
  cases hnamed.symm.trans q3
  have hselP : selectMethod e.platform s.vm cellB.cls mk = .method mk := by rw [Launch.admits_selectMethod X.admits]; exact q4
  obtain ⟨vm₁, X₁, hstep₁⟩ := X.invokevirtual hexec hown hlink hnamed hmethM hstM hkP hkPi hy (a := b) (cell := cellB) hcell
    (fun z h => by rw [h] at hobj; cases hobj) hselP hmethM habM hkP hkPi (g := g) hg (argsL := argsL) (rest := rest) (hlen _ hsigM) hstack hdg
  rcases hK m meth c ⟨T.setVm vm₁, locs, cells, slots⟩ { g with stack := rest } (.invokevirtual index) mk (Value.ref b :: argsL).toArray X₁ hg hsize hdg hW (X₁.named hnamed) (hpre vm₁ X₁.warmed) with ⟨v, B, X', hpost, hsteps⟩ | ⟨q, B, X', hpost, hsteps⟩
  · exact Or.inl ⟨v, vm₁, B, X₁.warmed, X', hpost, fun target h => hstep₁ _ fun acts => by rw [doInvoke_state]; exact hsteps.trans h⟩
  · exact Or.inr ⟨q, vm₁, B, X₁.warmed, X', hpost, hstep₁ _ fun acts => by rw [doInvoke_state]; exact hsteps⟩
theorem vx_callS (X : Stand p l e R s m args below meth c T locs cells slots) (hexec : p.tables.exec = Jvm.exec) {own : String} {index : Nat} {y : MethodName} {bytes : ByteArray} {maxL : Nat} {ret : Option FieldType}
    (hown : s.vm.findClass own = some m.cls) (hlink : (Cond.methodLink own index y).before args s = true) (hstat : (Cond.static y).before args s = true) (hinit : (Cond.initialized y.cls).before args s = true)
    (hcode : (Cond.code y bytes maxL ret).before args s = true) (hy : y.cls ≠ "java/lang/invoke/MethodHandle" ∧ y.cls ≠ "java/lang/invoke/VarHandle")
    {W9 : Nat} {Pre : Pt → Array Value → Prop} {Post : Pt → Array Value → Option Value → Pt → Prop} {PostX : Pt → Array Value → Addr → Pt → Prop} (hK : vx_Back l R p e below s args y 3 W9 Pre Post PostX)
    {g : JFrame} (hg : g.method = m) (hsize : g.locals.size = c.maxLocals) {argsL rest : List Value} (hlen : ∀ sig, parseMethodDescriptor y.desc = some sig → argsL.length = sig.parameters.length)
    (hstack : g.stack = argsL.reverse ++ rest) (hW : 2 * g.monitorRoom + (rest.map fun v => v.category).sum ≤ W9) (hdg : decode c.code g.pc = .ok (.invokestatic index, 3))
    (hpre : ∀ vm₁, s.WarmedH vm₁ → Pre ⟨T.setVm vm₁, locs, cells, slots⟩ argsL.toArray) :
    (∃ (v : Option Value) (vm₁ : Vm) (B : Pt), s.WarmedH vm₁ ∧ Stand p l e R s m args below meth c B.U B.locs B.cells B.slots ∧ Post ⟨T.setVm vm₁, locs, cells, slots⟩ argsL.toArray v B ∧
      ∀ target, Steps p.tables e below (B.U.setTop { g with pc := g.pc + 3, stack := v.toList ++ rest }) target → Steps p.tables e below (T.setTop g) target) ∨
    (∃ (q : Addr) (vm₁ : Vm) (B : Pt), s.WarmedH vm₁ ∧ Stand p l e R s m args below meth c B.U B.locs B.cells B.slots ∧ PostX ⟨T.setVm vm₁, locs, cells, slots⟩ argsL.toArray q B ∧
      Steps p.tables e below (T.setTop g) ((B.U.setTop { g with stack := rest }).pushFrame (.throwing q))) := by
  obtain ⟨mk, hnamed⟩ := Cond.code_named hcode
  obtain ⟨methM, cM, hmethM, -, -, -, -, -, -, hsigM⟩ := Cond.code_spec hnamed hcode
  have hstatic : methM.isStatic = true := Cond.static_spec hnamed hmethM hstat
  obtain ⟨kP, hkP, -⟩ := className_of_methodNamed hnamed
  have hinitP : kP.init = .initialized := Cond.initialized_spec (findClass_of_methodNamed hnamed) hkP hinit
  obtain ⟨vm₁, X₁, hstep₁⟩ := X.invokestatic hexec hown hlink hnamed hmethM hstatic hkP hinitP hy (g := g) hg (argsL := argsL) (rest := rest) (hlen _ hsigM) hstack hdg
  rcases hK m meth c ⟨T.setVm vm₁, locs, cells, slots⟩ { g with stack := rest } (.invokestatic index) mk argsL.toArray X₁ hg hsize hdg hW (X₁.named hnamed) (hpre vm₁ X₁.warmed) with ⟨v, B, X', hpost, hsteps⟩ | ⟨q, B, X', hpost, hsteps⟩
  · exact Or.inl ⟨v, vm₁, B, X₁.warmed, X', hpost, fun target h => hstep₁ _ fun acts => by rw [doInvoke_state]; exact hsteps.trans h⟩
  · exact Or.inr ⟨q, vm₁, B, X₁.warmed, X', hpost, hstep₁ _ fun acts => by rw [doInvoke_state]; exact hsteps⟩
end Calls
theorem vx_cls {s : State} {T : State} {vm₁ : Vm} {E : String} {k : ClassId} (hW : s.WarmedH vm₁) (h : (T.setVm vm₁).vm.findClass E = some k) : s.vm.findClass E = some k := by
  have h1 : vm₁.findClass E = some k := h
  rw [hW.alike.findClass] at h1
  exact h1
/-- the method's frame g, with q thrown over it -/
def vx_W (p : Program) (l : Launch) (e : Env) (R : Room) (s : State) (m : MethodId) (args : Array Value) (below : List Frame) (meth : Method) (c : Code) (H : Heap) (locs : List Loc) (cells slots : Nat) (Q : State → Prop) (g : JFrame) (q : Addr) : Prop :=
  ∀ T : State, T.heap = H → Stand p l e R s m args below meth c T locs cells slots → ∃ t, Steps p.tables e below ((T.setTop g).pushFrame (.throwing q)) t ∧ Q t
def vx_Run (p : Program) (l : Launch) (e : Env) (R : Room) (s : State) (m : MethodId) (args : Array Value) (below : List Frame) (meth : Method) (c : Code) (H : Heap) (locs : List Loc) (cells slots mc ms : Nat) (g : JFrame) (rest : List Value) (Qa : State → Outcome → State → Prop) (XC : String → State → State → Prop) (free : Addr → Prop) : Prop :=
  ∀ T : State, T.heap = H → Stand p l e R s m args below meth c T locs cells slots →
    (∃ (v : Option Value) (st₀ t T' : State) (L : List Loc), st₀.heap = H ∧ Stand p l e R s m args below meth c T' (locs ++ L) (cells + mc) (slots + ms) ∧ (∀ q ∈ L, free q.base) ∧ T'.heap = t.heap ∧ T'.vm = t.vm ∧ Qa st₀ (.returned v) t ∧
      Goes p e below T g T' { g with pc := g.pc + 3, stack := v.toList ++ rest }) ∨
    (∃ (q : Addr) (st₀ t T' : State) (L : List Loc) (E : String) (ce : Cell), st₀.heap = H ∧ Stand p l e R s m args below meth c T' (locs ++ L) (cells + mc) (slots + ms) ∧ (∀ z ∈ L, free z.base) ∧ T'.heap = t.heap ∧ T'.vm = t.vm ∧ XC E st₀ t ∧ t.heap[q]? = some ce ∧ ce.vm = .none ∧ s.vm.findClass E = some ce.cls ∧
      Steps p.tables e below (T.setTop g) ((T'.setTop { g with stack := rest }).pushFrame (.throwing q)))
def vx_X {S : Type} (px : S → Prop) (B : String → S → State → Prop) (A : Nat → Prop) : String → State → State → Prop := fun E st t => ∃ u : S, px u ∧ B E u t ∧ va_F A st t
section Runs
variable {p : Program} {l : Launch} {e : Env} {R : Room} {s : State} {m : MethodId} {args : Array Value} {below : List Frame} {meth : Method} {c : Code} {H : Heap} {locs : List Loc} {cells slots : Nat}
variable {y : MethodName} {bytes cc : ByteArray} {maxL nL mc ms n index : Nat} {ret : Option FieldType} {ws : List Cond} {rm : Room} {Pc : Array Value → State → Prop} {Qc : Array Value → State → Outcome → State → Prop} {XC : String → State → State → Prop} {free : Addr → Prop} {Ts : List Cond} {own C : String} {b : Addr} {As rest : List Value} {g : JFrame}
theorem vx_callBack (cb : CallB R s args own index y bytes maxL ret ws rm mc ms n) (hM : vx_Met l y ws rm Pc Qc XC mc ms free) (hbl : FrameBlind Pc) : vx_Back l R p e below s args y 3 8 (PreOf R mc ms Pc) (PostOf Qc mc ms free) (vx_Post XC mc ms free) := by
  obtain ⟨hrc, hrs, hfr, hlo, hws, hcw, -, hini, -⟩ := cb
  exact vx_back (bytes := bytes) (maxL := maxL) (ret := ret) hM hbl hrc hrs hfr hlo hws hcw (fun a' U hW => word_at hW (Or.inl (by first | rfl | simp [Cond.onTables, Cond.keeps, Cond.steady])) hini)
theorem vx_runV (S : CallFix p m c cc nL s args Ts own) (hM : vx_Met l y ws rm Pc Qc XC mc ms free) (cw : CallW R s args own C index y bytes maxL ret ws rm mc ms n) (hp : PreV s H C b Pc As)
    (hg : g.method = m) (hn : As.length = n) (hsize : g.locals.size = nL) (hstack : g.stack = As.reverse ++ .ref b :: rest) (hW : 2 * g.monitorRoom + (rest.map fun v => v.category).sum ≤ 8) (hdg : decode cc g.pc = .ok (.invokevirtual index, 3)) (hf : cells + mc ≤ R.cells ∧ slots + ms ≤ R.slots) :
    vx_Run p l e R s m args below meth c H locs cells slots mc ms g rest (Qc (Value.ref b :: As).toArray) XC free := by
  have hK : vx_Back l R p e below s args y 3 8 (PreOf R mc ms Pc) (PostOf Qc mc ms free) (vx_Post XC mc ms free) := vx_callBack cw.1 hM hp.1
  obtain ⟨⟨-, -, -, -, -, -, hcode, -, hy, hlen, hl⟩, hin, hse⟩ := cw
  obtain ⟨hx, hb, hml, ho, -⟩ := S
  obtain ⟨-, ⟨cellB, hcB, hoB, hclB⟩, hPc⟩ := hp
  intro T hT X
  rcases vx_callV X hx (C := C) (bytes := bytes) (maxL := maxL) (ret := ret) ho hl hin hse hcode hy hK (by rw [hT]; exact hcB) hoB hclB hg (hsize.trans hml.symm) (argsL := As) (rest := rest) (fun sig h => hn.trans (hlen sig h)) hstack hW (by rw [hb]; exact hdg)
    (fun vm₁ hW₁ => ⟨hf.1, hf.2, hPc (T.setVm vm₁) hT hW₁⟩) with ⟨v, vm₁, ⟨U', l2, c2, s2⟩, hW₁, X', ⟨g', mk, t, L, e1, e2, hq, h1, hL, h2, h3⟩, st⟩ | ⟨q, vm₁, ⟨U', l2, c2, s2⟩, hW₁, X', ⟨g', mk, t, L, E, ce, e1, e2, hq, hce, hcv, hcl, h1, hL, h2, h3⟩, st⟩
  · dsimp only [Pt.U, Pt.locs, Pt.cells, Pt.slots] at X' e1 e2 h1 h2 h3 st
    subst h1; subst h2; subst h3
    exact Or.inl ⟨v, (T.setVm vm₁).calling g' mk (Value.ref b :: As).toArray, t, U', L, hT, X', hL, e1, e2, hq, st⟩
  · dsimp only [Pt.U, Pt.locs, Pt.cells, Pt.slots] at X' e1 e2 h1 h2 h3 st hcl
    subst h1; subst h2; subst h3
    exact Or.inr ⟨q, (T.setVm vm₁).calling g' mk (Value.ref b :: As).toArray, t, U', L, E, ce, hT, X', hL, e1, e2, hq, hce, hcv, vx_cls hW₁ hcl, st⟩
theorem vx_runS (S : CallFix p m c cc nL s args Ts own) (hM : vx_Met l y ws rm Pc Qc XC mc ms free) (cw : CallB R s args own index y bytes maxL ret ws rm mc ms n ∧ (Cond.static y).before args s = true) (hp : PreS s H Pc As)
    (hg : g.method = m) (hn : As.length = n) (hsize : g.locals.size = nL) (hstack : g.stack = As.reverse ++ rest) (hW : 2 * g.monitorRoom + (rest.map fun v => v.category).sum ≤ 8) (hdg : decode cc g.pc = .ok (.invokestatic index, 3)) (hf : cells + mc ≤ R.cells ∧ slots + ms ≤ R.slots) :
    vx_Run p l e R s m args below meth c H locs cells slots mc ms g rest (Qc As.toArray) XC free := by
  have hK : vx_Back l R p e below s args y 3 8 (PreOf R mc ms Pc) (PostOf Qc mc ms free) (vx_Post XC mc ms free) := vx_callBack cw.1 hM hp.1
  obtain ⟨⟨-, -, -, -, -, -, hcode, hini, hy, hlen, hl⟩, hstt⟩ := cw
  obtain ⟨hx, hb, hml, ho, -⟩ := S
  intro T hT X
  rcases vx_callS X hx (bytes := bytes) (maxL := maxL) (ret := ret) ho hl hstt hini hcode hy hK hg (hsize.trans hml.symm) (argsL := As) (rest := rest) (fun sig h => hn.trans (hlen sig h)) hstack hW (by rw [hb]; exact hdg)
    (fun vm₁ hW₁ => ⟨hf.1, hf.2, hp.2 (T.setVm vm₁) hT hW₁⟩) with ⟨v, vm₁, ⟨U', l2, c2, s2⟩, hW₁, X', ⟨g', mk, t, L, e1, e2, hq, h1, hL, h2, h3⟩, st⟩ | ⟨q, vm₁, ⟨U', l2, c2, s2⟩, hW₁, X', ⟨g', mk, t, L, E, ce, e1, e2, hq, hce, hcv, hcl, h1, hL, h2, h3⟩, st⟩
  · dsimp only [Pt.U, Pt.locs, Pt.cells, Pt.slots] at X' e1 e2 h1 h2 h3 st
    subst h1; subst h2; subst h3
    exact Or.inl ⟨v, (T.setVm vm₁).calling g' mk As.toArray, t, U', L, hT, X', hL, e1, e2, hq, st⟩
  · dsimp only [Pt.U, Pt.locs, Pt.cells, Pt.slots] at X' e1 e2 h1 h2 h3 st hcl
    subst h1; subst h2; subst h3
    exact Or.inr ⟨q, (T.setVm vm₁).calling g' mk As.toArray, t, U', L, E, ce, hT, X', hL, e1, e2, hq, hce, hcv, vx_cls hW₁ hcl, st⟩
end Runs
section Rows
variable {p : Program} {l : Launch} {e : Env} {R : Room} {s : State} {m : MethodId} {args : Array Value} {below : List Frame} {meth : Method} {c : Code} {H : Heap} {locs : List Loc} {cells slots : Nat} {Q : State → Prop}
variable {mc ms : Nat} {free : Addr → Prop} {A0 A1 : Nat → Prop} {H0 : Heap} {a : Array Value} {pc : Nat} {ls : Array Slot} {st0 rest : List Value}
theorem vx_keep {st₀ t T' : State} {L : List Loc} (h0 : st₀.heap = H) (e1 : T'.heap = t.heap) (hS : va_S A0 H0 H locs) (hA : ∀ q, q < H.size → A1 q → A0 q) (hf : ∀ q, free q → A0 q) (hL : ∀ q ∈ L, free q.base) (hF : va_F A1 st₀ t) :
    H.size ≤ T'.heap.size ∧ (∀ q : Nat, q < H.size → ¬ A1 q → T'.heap[q]? = H[q]?) ∧ va_S A0 H0 T'.heap (locs ++ L) := by
  obtain ⟨hz, hk⟩ := hF
  rw [h0] at hz hk
  exact ⟨by rw [e1]; exact hz, fun q h1 h2 => by rw [e1]; exact hk q h1 h2,
    ⟨Nat.le_trans hS.1 (by rw [e1]; exact hz), fun q h1 h2 => by rw [e1, hk q (Nat.lt_of_lt_of_le h1 hS.1) (fun z => h2 (hA q (Nat.lt_of_lt_of_le h1 hS.1) z))]; exact hS.2.1 q h1 h2, fun q hq => by
      rcases List.mem_append.mp hq with h | h
      · exact hS.2.2 q h
      · exact hf _ (hL q h)⟩⟩
theorem vx_calli {S SX : Type} {post : Int32 → S → Prop} {px : SX → Prop} {B : S → State → Prop} {BX : String → SX → State → Prop} {AX : Nat → Prop} (hr : vx_Run p l e R s m args below meth c H locs cells slots mc ms (F0 m pc ls st0) rest (va_Qi post B A1 a) (vx_X px BX AX) free) (hS : va_S A0 H0 H locs) (hA : ∀ q, q < H.size → A1 q → A0 q) (hf : ∀ q, free q → A0 q) (hAX : ∀ q, q < H.size → AX q → A0 q)
    (kx : ∀ (E : String) (ce : Cell) (q9 : Addr) (u : SX) (t : State) (H1 : Heap) (locs1 : List Loc), t.heap = H1 → s.vm.Alike t.vm → px u → BX E u t → H.size ≤ H1.size → (∀ q : Nat, q < H.size → ¬ AX q → H1[q]? = H[q]?) → va_S A0 H0 H1 locs1 → H1[q9]? = some ce → ce.vm = .none → s.vm.findClass E = some ce.cls → vx_W p l e R s m args below meth c H1 locs1 (cells + mc) (slots + ms) Q (F0 m pc ls rest) q9)
    (kk : ∀ (r : Int32) (u : S) (t : State) (H1 : Heap) (locs1 : List Loc), t.heap = H1 → s.vm.Alike t.vm → post r u → B u t → H.size ≤ H1.size → (∀ q : Nat, q < H.size → ¬ A1 q → H1[q]? = H[q]?) → va_S A0 H0 H1 locs1 → W p l e R s m args below meth c H1 locs1 (cells + mc) (slots + ms) Q (F0 m (pc + 3) ls (.int r :: rest))) : W p l e R s m args below meth c H locs cells slots Q (F0 m pc ls st0) := by
  intro T hT X
  rcases hr T hT X with ⟨v, st₀, t, T', L, h0, X', hL, e1, e2, ⟨⟨r, u, hv, hp, hb⟩, hF⟩, st⟩ | ⟨q, st₀, t, T', L, E, ce, h0, X', hL, e1, e2, ⟨u, hp, hb, hF⟩, hce, hcv, hcl, st⟩
  · cases hv
    obtain ⟨k1, k2, k3⟩ := vx_keep h0 e1 hS hA hf hL hF
    obtain ⟨t2, a1, b1⟩ := kk r u t T'.heap (locs ++ L) e1.symm (by rw [← e2]; exact X'.warmed.alike) hp hb k1 k2 k3 T' rfl X'
    exact ⟨t2, st t2 a1, b1⟩
  · obtain ⟨k1, k2, k3⟩ := vx_keep h0 e1 hS hAX hf hL hF
    obtain ⟨t2, a1, b1⟩ := kx E ce q u t T'.heap (locs ++ L) e1.symm (by rw [← e2]; exact X'.warmed.alike) hp hb k1 k2 k3 (by rw [e1]; exact hce) hcv hcl T' rfl X'
    exact ⟨t2, st.trans a1, b1⟩
theorem vx_calll {S SX : Type} {post : Int64 → S → Prop} {px : SX → Prop} {B : S → State → Prop} {BX : String → SX → State → Prop} {AX : Nat → Prop} (hr : vx_Run p l e R s m args below meth c H locs cells slots mc ms (F0 m pc ls st0) rest (va_Ql post B A1 a) (vx_X px BX AX) free) (hS : va_S A0 H0 H locs) (hA : ∀ q, q < H.size → A1 q → A0 q) (hf : ∀ q, free q → A0 q) (hAX : ∀ q, q < H.size → AX q → A0 q)
    (kx : ∀ (E : String) (ce : Cell) (q9 : Addr) (u : SX) (t : State) (H1 : Heap) (locs1 : List Loc), t.heap = H1 → s.vm.Alike t.vm → px u → BX E u t → H.size ≤ H1.size → (∀ q : Nat, q < H.size → ¬ AX q → H1[q]? = H[q]?) → va_S A0 H0 H1 locs1 → H1[q9]? = some ce → ce.vm = .none → s.vm.findClass E = some ce.cls → vx_W p l e R s m args below meth c H1 locs1 (cells + mc) (slots + ms) Q (F0 m pc ls rest) q9)
    (kk : ∀ (r : Int64) (u : S) (t : State) (H1 : Heap) (locs1 : List Loc), t.heap = H1 → s.vm.Alike t.vm → post r u → B u t → H.size ≤ H1.size → (∀ q : Nat, q < H.size → ¬ A1 q → H1[q]? = H[q]?) → va_S A0 H0 H1 locs1 → W p l e R s m args below meth c H1 locs1 (cells + mc) (slots + ms) Q (F0 m (pc + 3) ls (.long r :: rest))) : W p l e R s m args below meth c H locs cells slots Q (F0 m pc ls st0) := by
  intro T hT X
  rcases hr T hT X with ⟨v, st₀, t, T', L, h0, X', hL, e1, e2, ⟨⟨r, u, hv, hp, hb⟩, hF⟩, st⟩ | ⟨q, st₀, t, T', L, E, ce, h0, X', hL, e1, e2, ⟨u, hp, hb, hF⟩, hce, hcv, hcl, st⟩
  · cases hv
    obtain ⟨k1, k2, k3⟩ := vx_keep h0 e1 hS hA hf hL hF
    obtain ⟨t2, a1, b1⟩ := kk r u t T'.heap (locs ++ L) e1.symm (by rw [← e2]; exact X'.warmed.alike) hp hb k1 k2 k3 T' rfl X'
    exact ⟨t2, st t2 a1, b1⟩
  · obtain ⟨k1, k2, k3⟩ := vx_keep h0 e1 hS hAX hf hL hF
    obtain ⟨t2, a1, b1⟩ := kx E ce q u t T'.heap (locs ++ L) e1.symm (by rw [← e2]; exact X'.warmed.alike) hp hb k1 k2 k3 (by rw [e1]; exact hce) hcv hcl T' rfl X'
    exact ⟨t2, st.trans a1, b1⟩
theorem vx_callf {S SX : Type} {post : UInt32 → S → Prop} {px : SX → Prop} {B : S → State → Prop} {BX : String → SX → State → Prop} {AX : Nat → Prop} (hr : vx_Run p l e R s m args below meth c H locs cells slots mc ms (F0 m pc ls st0) rest (va_Qf post B A1 a) (vx_X px BX AX) free) (hS : va_S A0 H0 H locs) (hA : ∀ q, q < H.size → A1 q → A0 q) (hf : ∀ q, free q → A0 q) (hAX : ∀ q, q < H.size → AX q → A0 q)
    (kx : ∀ (E : String) (ce : Cell) (q9 : Addr) (u : SX) (t : State) (H1 : Heap) (locs1 : List Loc), t.heap = H1 → s.vm.Alike t.vm → px u → BX E u t → H.size ≤ H1.size → (∀ q : Nat, q < H.size → ¬ AX q → H1[q]? = H[q]?) → va_S A0 H0 H1 locs1 → H1[q9]? = some ce → ce.vm = .none → s.vm.findClass E = some ce.cls → vx_W p l e R s m args below meth c H1 locs1 (cells + mc) (slots + ms) Q (F0 m pc ls rest) q9)
    (kk : ∀ (r : UInt32) (u : S) (t : State) (H1 : Heap) (locs1 : List Loc), t.heap = H1 → s.vm.Alike t.vm → post r u → B u t → H.size ≤ H1.size → (∀ q : Nat, q < H.size → ¬ A1 q → H1[q]? = H[q]?) → va_S A0 H0 H1 locs1 → W p l e R s m args below meth c H1 locs1 (cells + mc) (slots + ms) Q (F0 m (pc + 3) ls (.float r :: rest))) : W p l e R s m args below meth c H locs cells slots Q (F0 m pc ls st0) := by
  intro T hT X
  rcases hr T hT X with ⟨v, st₀, t, T', L, h0, X', hL, e1, e2, ⟨⟨r, u, hv, hp, hb⟩, hF⟩, st⟩ | ⟨q, st₀, t, T', L, E, ce, h0, X', hL, e1, e2, ⟨u, hp, hb, hF⟩, hce, hcv, hcl, st⟩
  · cases hv
    obtain ⟨k1, k2, k3⟩ := vx_keep h0 e1 hS hA hf hL hF
    obtain ⟨t2, a1, b1⟩ := kk r u t T'.heap (locs ++ L) e1.symm (by rw [← e2]; exact X'.warmed.alike) hp hb k1 k2 k3 T' rfl X'
    exact ⟨t2, st t2 a1, b1⟩
  · obtain ⟨k1, k2, k3⟩ := vx_keep h0 e1 hS hAX hf hL hF
    obtain ⟨t2, a1, b1⟩ := kx E ce q u t T'.heap (locs ++ L) e1.symm (by rw [← e2]; exact X'.warmed.alike) hp hb k1 k2 k3 (by rw [e1]; exact hce) hcv hcl T' rfl X'
    exact ⟨t2, st.trans a1, b1⟩
theorem vx_calld {S SX : Type} {post : UInt64 → S → Prop} {px : SX → Prop} {B : S → State → Prop} {BX : String → SX → State → Prop} {AX : Nat → Prop} (hr : vx_Run p l e R s m args below meth c H locs cells slots mc ms (F0 m pc ls st0) rest (va_Qd post B A1 a) (vx_X px BX AX) free) (hS : va_S A0 H0 H locs) (hA : ∀ q, q < H.size → A1 q → A0 q) (hf : ∀ q, free q → A0 q) (hAX : ∀ q, q < H.size → AX q → A0 q)
    (kx : ∀ (E : String) (ce : Cell) (q9 : Addr) (u : SX) (t : State) (H1 : Heap) (locs1 : List Loc), t.heap = H1 → s.vm.Alike t.vm → px u → BX E u t → H.size ≤ H1.size → (∀ q : Nat, q < H.size → ¬ AX q → H1[q]? = H[q]?) → va_S A0 H0 H1 locs1 → H1[q9]? = some ce → ce.vm = .none → s.vm.findClass E = some ce.cls → vx_W p l e R s m args below meth c H1 locs1 (cells + mc) (slots + ms) Q (F0 m pc ls rest) q9)
    (kk : ∀ (r : UInt64) (u : S) (t : State) (H1 : Heap) (locs1 : List Loc), t.heap = H1 → s.vm.Alike t.vm → post r u → B u t → H.size ≤ H1.size → (∀ q : Nat, q < H.size → ¬ A1 q → H1[q]? = H[q]?) → va_S A0 H0 H1 locs1 → W p l e R s m args below meth c H1 locs1 (cells + mc) (slots + ms) Q (F0 m (pc + 3) ls (.double r :: rest))) : W p l e R s m args below meth c H locs cells slots Q (F0 m pc ls st0) := by
  intro T hT X
  rcases hr T hT X with ⟨v, st₀, t, T', L, h0, X', hL, e1, e2, ⟨⟨r, u, hv, hp, hb⟩, hF⟩, st⟩ | ⟨q, st₀, t, T', L, E, ce, h0, X', hL, e1, e2, ⟨u, hp, hb, hF⟩, hce, hcv, hcl, st⟩
  · cases hv
    obtain ⟨k1, k2, k3⟩ := vx_keep h0 e1 hS hA hf hL hF
    obtain ⟨t2, a1, b1⟩ := kk r u t T'.heap (locs ++ L) e1.symm (by rw [← e2]; exact X'.warmed.alike) hp hb k1 k2 k3 T' rfl X'
    exact ⟨t2, st t2 a1, b1⟩
  · obtain ⟨k1, k2, k3⟩ := vx_keep h0 e1 hS hAX hf hL hF
    obtain ⟨t2, a1, b1⟩ := kx E ce q u t T'.heap (locs ++ L) e1.symm (by rw [← e2]; exact X'.warmed.alike) hp hb k1 k2 k3 (by rw [e1]; exact hce) hcv hcl T' rfl X'
    exact ⟨t2, st.trans a1, b1⟩
theorem vx_callv {S SX : Type} {post : S → Prop} {px : SX → Prop} {B : S → State → Prop} {BX : String → SX → State → Prop} {AX : Nat → Prop} (hr : vx_Run p l e R s m args below meth c H locs cells slots mc ms (F0 m pc ls st0) rest (va_Qv post B A1 a) (vx_X px BX AX) free) (hS : va_S A0 H0 H locs) (hA : ∀ q, q < H.size → A1 q → A0 q) (hf : ∀ q, free q → A0 q) (hAX : ∀ q, q < H.size → AX q → A0 q)
    (kx : ∀ (E : String) (ce : Cell) (q9 : Addr) (u : SX) (t : State) (H1 : Heap) (locs1 : List Loc), t.heap = H1 → s.vm.Alike t.vm → px u → BX E u t → H.size ≤ H1.size → (∀ q : Nat, q < H.size → ¬ AX q → H1[q]? = H[q]?) → va_S A0 H0 H1 locs1 → H1[q9]? = some ce → ce.vm = .none → s.vm.findClass E = some ce.cls → vx_W p l e R s m args below meth c H1 locs1 (cells + mc) (slots + ms) Q (F0 m pc ls rest) q9)
    (kk : ∀ (u : S) (t : State) (H1 : Heap) (locs1 : List Loc), t.heap = H1 → s.vm.Alike t.vm → post u → B u t → H.size ≤ H1.size → (∀ q : Nat, q < H.size → ¬ A1 q → H1[q]? = H[q]?) → va_S A0 H0 H1 locs1 → W p l e R s m args below meth c H1 locs1 (cells + mc) (slots + ms) Q (F0 m (pc + 3) ls (rest))) : W p l e R s m args below meth c H locs cells slots Q (F0 m pc ls st0) := by
  intro T hT X
  rcases hr T hT X with ⟨v, st₀, t, T', L, h0, X', hL, e1, e2, ⟨⟨u, hv, hp, hb⟩, hF⟩, st⟩ | ⟨q, st₀, t, T', L, E, ce, h0, X', hL, e1, e2, ⟨u, hp, hb, hF⟩, hce, hcv, hcl, st⟩
  · cases hv
    obtain ⟨k1, k2, k3⟩ := vx_keep h0 e1 hS hA hf hL hF
    obtain ⟨t2, a1, b1⟩ := kk u t T'.heap (locs ++ L) e1.symm (by rw [← e2]; exact X'.warmed.alike) hp hb k1 k2 k3 T' rfl X'
    exact ⟨t2, st t2 a1, b1⟩
  · obtain ⟨k1, k2, k3⟩ := vx_keep h0 e1 hS hAX hf hL hF
    obtain ⟨t2, a1, b1⟩ := kx E ce q u t T'.heap (locs ++ L) e1.symm (by rw [← e2]; exact X'.warmed.alike) hp hb k1 k2 k3 (by rw [e1]; exact hce) hcv hcl T' rfl X'
    exact ⟨t2, st.trans a1, b1⟩
/-- caught by the row x of this method's table; the rows ahead don't take it -/
theorem vx_catch {own name : String} {E : String} {ce : Cell} {q : Addr} (hown : s.vm.findClass own = some m.cls) (pre : List ExceptionTableEntry) (x : ExceptionTableEntry) (suf : List ExceptionTableEntry) (hsplit : c.exceptionTable.toList = pre ++ x :: suf)
    (hpass : ∀ z ∈ pre, covers z pc = false ∨ (z.catchType ≠ 0 ∧ ∃ nm : String, (Cond.classLink own z.catchType nm).before args s = true ∧ va_Nc E nm s)) (hx : covers x pc = true) (h0 : x.catchType ≠ 0)
    (hlink : (Cond.classLink own x.catchType name).before args s = true) (hcast : (Cond.castable E name).before args s = true) (hcell : H[q]? = some ce) (hv : ce.vm = .none) (hcl : s.vm.findClass E = some ce.cls)
    (kk : W p l e R s m args below meth c H locs cells slots Q (F0 m x.handlerPc ls [.ref q])) : vx_W p l e R s m args below meth c H locs cells slots Q (F0 m pc ls rest) q := by
  intro T hT X
  have hpl : e.platform.magicAccessors = ({} : Platform).magicAccessors := by rw [X.admits.platform]
  obtain ⟨c3, c4, hc3, hc4, hasg⟩ := Cond.castable_spec hcast
  cases Option.some.inj (hc3.symm.trans hcl)
  obtain ⟨c5, hc5, hcl5⟩ := Cond.classLink_spec hown hlink e.platform hpl
  cases Option.some.inj (hc4.symm.trans hc5)
  obtain ⟨vm', X', st⟩ := X.thenCaughtThrough q (g := F0 m pc ls rest) rfl (Steps.refl _) (by rw [hT]; exact hcell) (by rw [hv]; rfl) (by obtain ⟨k9, h9, -⟩ := Vm.findClass_spec hcl; exact ⟨k9, h9⟩) pre x suf hsplit
    (fun z hz => by
      rcases hpass z hz with h | ⟨hz0, nm, hl1, hn1⟩
      · exact Or.inl h
      · obtain ⟨c6, hc6, hcl6⟩ := Cond.classLink_spec hown hl1 e.platform hpl
        obtain ⟨a8, b8, h1, h2, h3⟩ := hn1
        cases Option.some.inj (h1.symm.trans hcl)
        cases Option.some.inj (h2.symm.trans hc6)
        exact Or.inr ⟨hz0, _, hcl6, h3⟩) hx (Or.inr ⟨h0, c4, hcl5, hasg⟩)
  obtain ⟨t, a1, b1⟩ := kk (T.setVm vm') hT X'
  exact ⟨t, st.trans a1, b1⟩
end Rows
section Ends
variable {p : Program} {l : Launch} {e : Env} {R : Room} {s : State} {m : MethodId} {args : Array Value} {below : List Frame} {meth : Method} {c : Code} {H : Heap} {locs : List Loc} {cells slots : Nat} {Q : State → Prop}
variable {mc ms : Nat} {free : Addr → Prop} {A0 A1 : Nat → Prop} {H0 : Heap} {a : Array Value} {ls : Array Slot} {st0 rest : List Value}
variable {Qc : Array Value → State → Outcome → State → Prop} {XC : String → State → State → Prop}
/-- what a body that may throw owes at its end -/
def vx_MQ (below : List Frame) (Qc : Array Value → State → Outcome → State → Prop) (XC : String → State → State → Prop) (a : Array Value) (s : State) (mc ms : Nat) (free : Addr → Prop) : State → Prop := fun t =>
  ∃ o, t.status = .running ∧ Ended t below o ∧ vx_Q Qc XC mc ms free a s o t
theorem vx_ret {g : JFrame} {mc ms : Nat} (k : W p l e R s m args below meth c H locs cells slots (MQ below Qc args s mc ms free) g) : W p l e R s m args below meth c H locs cells slots (vx_MQ below Qc XC args s mc ms free) g := by
  intro T hT X
  obtain ⟨t, a1, o, b1, b2, b3, b4⟩ := k T hT X
  exact ⟨t, a1, o, b1, b2, Or.inl ⟨b3, b4⟩⟩
/-- not caught here: it goes on to the caller -/
theorem vx_widen {g : JFrame} {q : Addr} {k n : Nat} (h1 : cells ≤ k) (h2 : slots ≤ n) (kk : vx_W p l e R s m args below meth c H locs k n Q g q) : vx_W p l e R s m args below meth c H locs cells slots Q g q := fun T hT X => kk T hT (stand_widen X h1 h2)
theorem vx_out {pc : Nat} {E : String} {ce : Cell} {q : Addr} {mc ms : Nat} (hout : ∀ x ∈ c.exceptionTable.toList, covers x pc = false) (hlocks : meth.locks = false) (hcell : H[q]? = some ce) (hv : ce.vm = .none) (hcl : s.vm.findClass E = some ce.cls)
    (hx : ∀ t : State, t.heap = H → s.vm.Alike t.vm → XC E s t) (hf : ∀ z ∈ locs, free z.base) (hc : cells ≤ mc) (hs : slots ≤ ms) :
    vx_W p l e R s m args below meth c H locs cells slots (vx_MQ below Qc XC args s mc ms free) (F0 m pc ls rest) q := by
  intro T hT X
  obtain ⟨st1, hrun, hend, hW, hsm⟩ := X.leaveThrown q (g := F0 m pc ls rest) rfl rfl rfl hout hlocks
  have hcell9 : (T.setFrames (.throwing q :: below)).heap[q]? = some ce := by
    show T.heap[q]? = some ce
    rw [hT]; exact hcell
  exact ⟨_, st1, .threw q, hrun, hend, Or.inr ⟨q, rfl, E, ce, locs, hx _ hT hW.alike, hcell9, hv, hcl, hW, hsm.mono hc hs, hf⟩⟩
theorem vx_frame {U : State} {k n : Nat} (h : s.sameButNew ({ U with vm := s.vm } : State) locs k n) : s.heap.size ≤ U.heap.size ∧ ∀ q : Nat, q < s.heap.size → (∀ z ∈ locs, z.base ≠ q) → U.heap[q]? = s.heap[q]? := by
  obtain ⟨-, h2, -, -, -, h6⟩ := h
  refine ⟨h2, fun q hq hz => ?_⟩
  obtain ⟨c9, e1, e2, e3, e4⟩ := h6 q _ (Array.getElem?_eq_getElem hq)
  have hs : c9.slots = (s.heap[q]).slots := Array.ext_getElem? fun i => e4 i fun hm => hz _ hm rfl
  have h9 : c9 = s.heap[q] := by
    rw [hs] at e2
    exact e2
  have e5 : U.heap[q]? = some c9 := e1
  rw [e5, h9, Array.getElem?_eq_getElem hq]
/-- the words of a throw but the four that speak of the heap -/
def vx_no (w : Cond) : Bool := decide (w ≠ .isRef (.static Bundle.tN "UNASSIGNED_STACK" Bundle.steD)) && decide (w ≠ .isRef (.static Bundle.tN "SUPPRESSED_SENTINEL" Bundle.listD)) && decide (w ≠ .laysStatic Bundle.tN "UNASSIGNED_STACK" Bundle.steD) && decide (w ≠ .laysStatic Bundle.tN "SUPPRESSED_SENTINEL" Bundle.listD)
def vx_at0 (own : String) (ic : Nat) (X : String) (names : List String) : List Cond := (Bundle.ownAtoms0 own ic X names).filter vx_no
def vx_atS (own : String) (ic : Nat) (X : String) (names : List String) : List Cond := (Bundle.ownAtoms own ic X names).filter vx_no
/-- a word that the tables alone decide, or a good one -/
def vx_ot (w : Cond) : Bool := w.onTables || goodWord w
theorem vx_ot_at {args a' : Array Value} {s U : State} {w : Cond} (hW : s.WarmedH U.vm) (hvm : s.vm = U.vm) (hg : vx_ot w = true) (h : w.before args s = true) : w.before a' U = true := by
  simp only [vx_ot, Bool.or_eq_true] at hg
  rcases hg with hg | hg
  · exact va_tabs hg hvm h
  · exact word_at hW (good_of_word hg) h
/-- a list's words: the good ones out of the method's own list, the others by premises of their own -/
theorem vx_hat {args : Array Value} {s : State} {L B : List Cond} (h1 : ∀ w ∈ L.filter goodWord, w.before args s = true) (h2 : ∀ w ∈ L.filter (fun w => !goodWord w), w ∈ B) (h3 : ∀ w ∈ B, w.before args s = true) : ∀ w ∈ L, w.before args s = true := by
  intro w hw
  by_cases g : goodWord w = true
  · exact h1 w (List.mem_filter.mpr ⟨hw, g⟩)
  · refine h3 w (h2 w (List.mem_filter.mpr ⟨hw, ?_⟩))
    show (!goodWord w) = true
    cases hgw : goodWord w
    · rfl
    · exact absurd hgw g
theorem vx_c {args : Array Value} {s : State} {w : Cond} {B : List Cond} (h : w.before args s = true) (t : ∀ w ∈ B, w.before args s = true) : ∀ w' ∈ w :: B, w'.before args s = true := fun w' h' => (List.mem_cons.mp h').elim (fun e => by rw [e]; exact h) (t w')
theorem vx_n {args : Array Value} {s : State} : ∀ w ∈ ([] : List Cond), w.before args s = true := fun _ h => nomatch h
theorem vx_own {args : Array Value} {s : State} {L : List Cond} (h1 : ∀ w ∈ L.filter vx_no, w.before args s = true)
    (hU : (Cond.isRef (.static Bundle.tN "UNASSIGNED_STACK" Bundle.steD)).before args s = true) (hN : (Cond.isRef (.static Bundle.tN "SUPPRESSED_SENTINEL" Bundle.listD)).before args s = true)
    (lU : (Cond.laysStatic Bundle.tN "UNASSIGNED_STACK" Bundle.steD).before args s = true) (lN : (Cond.laysStatic Bundle.tN "SUPPRESSED_SENTINEL" Bundle.listD).before args s = true) : ∀ w ∈ L, w.before args s = true := by
  intro w hw
  by_cases e1 : w = .isRef (.static Bundle.tN "UNASSIGNED_STACK" Bundle.steD)
  · rw [e1]; exact hU
  · by_cases e2 : w = .isRef (.static Bundle.tN "SUPPRESSED_SENTINEL" Bundle.listD)
    · rw [e2]; exact hN
    · by_cases e3 : w = .laysStatic Bundle.tN "UNASSIGNED_STACK" Bundle.steD
      · rw [e3]; exact lU
      · by_cases e4 : w = .laysStatic Bundle.tN "SUPPRESSED_SENTINEL" Bundle.listD
        · rw [e4]; exact lN
        · exact h1 w (List.mem_filter.mpr ⟨hw, by unfold vx_no; rw [decide_eq_true e1, decide_eq_true e2, decide_eq_true e3, decide_eq_true e4]; rfl⟩)
/-- where a static field lies, its class's statics cell in H -/
def vx_L (C n d : String) (A : Nat → Prop) (U : State) (H : Heap) : Prop := ∃ (c : ClassId) (k : Class) (i : Nat) (f : Field) (a : Nat) (cell : Cell), U.vm.findClass C = some c ∧ U.fieldFound? C n d = some (c, k, i, f) ∧ f.isStatic = true ∧ k.statics = some a ∧ H[a]? = some cell ∧ cell.vm.isStatics = true ∧ cell.cls = c ∧ f.slot < cell.slots.size ∧ k.staticTypes[f.slot]? = some f.type ∧ ¬ A a
theorem vx_L.moved {C n d : String} {A : Nat → Prop} {u U : State} {H : Heap} (hvm : u.vm.Alike U.vm) (h : vx_L C n d A u H) : vx_L C n d A U H := by
  obtain ⟨c, k, i, f, a, cell, h1, h2, h3, h4, h5, h6, h7, h8, h9, h10⟩ := h
  obtain ⟨k', hi', he⟩ := State.fieldFound?_setVm hvm h2
  exact ⟨c, k', i, f, a, cell, by rw [hvm.findClass]; exact h1, hi', h3, by rw [he]; exact h4, h5, h6, h7, h8, by rw [he]; exact h9, h10⟩
theorem vx_L.kept {C n d : String} {A : Nat → Prop} {U : State} {H H1 : Heap} (h : vx_L C n d A U H) (hq : ∀ a : Nat, a < H.size → ¬ A a → H1[a]? = H[a]?) : vx_L C n d A U H1 := by
  obtain ⟨c, k, i, f, a, cell, h1, h2, h3, h4, h5, h6, h7, h8, h9, h10⟩ := h
  exact ⟨c, k, i, f, a, cell, h1, h2, h3, h4, by rw [hq a (Array.getElem?_eq_some_iff.mp h5).1 h10]; exact h5, h6, h7, h8, h9, h10⟩
theorem vx_L.narrow {C n d : String} {A B : Nat → Prop} {U : State} {H : Heap} (h : vx_L C n d A U H) (hAB : ∀ q, B q → A q) : vx_L C n d B U H := by
  obtain ⟨c, k, i, f, a, cell, h1, h2, h3, h4, h5, h6, h7, h8, h9, h10⟩ := h
  exact ⟨c, k, i, f, a, cell, h1, h2, h3, h4, h5, h6, h7, h8, h9, fun z => h10 (hAB _ z)⟩
theorem vx_L.word {C n d : String} {A : Nat → Prop} {s : State} {args : Array Value} (h : vx_L C n d A s s.heap) : (Cond.laysStatic C n d).before args s = true := by
  obtain ⟨c, k, i, f, a, cell, h1, h2, h3, h4, h5, h6, h7, h8, h9, -⟩ := h
  show (Cond.laysStatic C n d).holds args s none s [] = true
  exact Cond.laysStatic_of h1 h2 h3 h4 h5 h6 h7 h8 h9
/-- .. and what it holds: null or some reference -/
def vx_Zq (C n d : String) (A : Nat → Prop) (U : State) (H : Heap) : Prop := va_Zq C n d A U H ∧ vx_L C n d A U H
theorem vx_Zq.moved {C n d : String} {A : Nat → Prop} {u U : State} {H : Heap} (hvm : u.vm.Alike U.vm) (h : vx_Zq C n d A u H) : vx_Zq C n d A U H := ⟨va_Zq.moved hvm h.1, vx_L.moved hvm h.2⟩
theorem vx_Zq.kept {C n d : String} {A : Nat → Prop} {U : State} {H H1 : Heap} (h : vx_Zq C n d A U H) (hq : ∀ a : Nat, a < H.size → ¬ A a → H1[a]? = H[a]?) : vx_Zq C n d A U H1 := ⟨va_Zq.kept h.1 hq, vx_L.kept h.2 hq⟩
theorem vx_Zq.narrow {C n d : String} {A B : Nat → Prop} {U : State} {H : Heap} (h : vx_Zq C n d A U H) (hAB : ∀ q, B q → A q) : vx_Zq C n d B U H := ⟨va_Zq.narrow h.1 hAB, vx_L.narrow h.2 hAB⟩
theorem vx_Zqof {args : Array Value} {s : State} {C n d : String} {A : Nat → Prop} (hl : (Cond.laysStatic C n d).before args s = true) (hini : (Cond.initialized C).before args s = true) (h : (Cond.isRef (.static C n d)).before args s = true) (hA : ∀ a : Nat, a < s.heap.size → ¬ A a) : vx_Zq C n d A s s.heap := by
  refine ⟨va_Zqof hl hini h hA, ?_⟩
  obtain ⟨c, k, i, f, a, cell, h1, h2, h3, h4, h5, h6, h7, h8, h9⟩ := Cond.laysStatic_spec hl
  exact ⟨c, k, i, f, a, cell, h1, h2, h3, h4, h5, h6, h7, h8, h9, hA a (Array.getElem?_eq_some_iff.mp h5).1⟩
theorem vx_isRef {C n d : String} {v : Value} {A : Nat → Prop} {s : State} {args : Array Value} (h : va_Z C n d v A s s.heap) (hv : v.isRef = true) : (Cond.isRef (.static C n d)).before args s = true := by
  obtain ⟨cf, kf, fi, f, a, cell, h1, h2, h3, h4, h5, h6, h7, -⟩ := h
  have he : (Term.static C n d).eval args s none [] s = some v := by
    simp [Term.eval, State.fieldNamed?, h1, h2, h4, h5, h6, h7]
  simp only [Cond.before, Cond.holds, Cond.value, he]
  cases v <;> simp_all [Value.isRef]
theorem vx_isRefq {C n d : String} {A : Nat → Prop} {s : State} {args : Array Value} (h : va_Zq C n d A s s.heap) : (Cond.isRef (.static C n d)).before args s = true := by
  rcases h with h | ⟨t, h⟩
  · exact vx_isRef h rfl
  · exact vx_isRef h rfl
/-- the same frame, seen from here: as if the method were called anew in this heap -/
theorem vx_rebase {T : State} (X : Stand p l e R s m args below meth c T locs cells slots) {R' : Room} (hf : R'.frames ≤ R.frames) (hl : R'.locals ≤ R.locals) (hc : cells + R'.cells ≤ R.cells) (hs : slots + R'.slots ≤ R.slots) :
    Stand p l e R' ((T.setVm s.vm).setFrames (.invoking m args :: below)) m args below meth c T [] 0 0 := by
  have htop : (T.setVm s.vm).topJava?.isSome := X.here.top
  have hF : ((T.setVm s.vm).setFrames (.invoking m args :: below)).frames = .invoking m args :: below := State.frames_setFrames _ (State.cur_lt_of_top htop)
  obtain ⟨g₀, hg0⟩ := Option.isSome_iff_exists.mp htop
  obtain ⟨r, hr⟩ := State.topJava?_eq_some.mp hg0
  have hl9 : e.platform.stackLimits (T.setVm s.vm).me = e.platform.stackLimits s.me := X.limits
  have hb9 : (T.setVm s.vm).me.stackBytes = s.me.stackBytes := X.bytes
  refine ⟨X.admits, X.cas, X.clock, hF, ?_, X.hears, X.method, X.code, X.here, X.tail, X.warmed, ?_, ?_, ?_⟩
  · have h := X.room
    have hU : ((T.setVm s.vm).setFrames (.invoking m args :: below)).localsInUse = s.localsInUse := by
      rw [State.localsInUse_invoking hF (meth := meth) (c := c) X.method X.code, State.localsInUse_invoking X.frames X.method X.code]
    simp only [State.hasRoom, Bool.and_eq_true, decide_eq_true_eq] at h ⊢
    obtain ⟨⟨⟨⟨h1, h2, h3, h4, h5, h6⟩, h7⟩, h8⟩, h9⟩ := h
    rw [X.frames, List.length_cons] at h2 h3
    have q1 := X.heapSize
    have q2 := X.used
    simp only [hF, hU, List.length_cons, State.stackLimits_setFrames, State.stackBytes_setFrames, hl9, hb9]
    refine ⟨⟨⟨⟨by omega, by omega, by omega, by omega, by omega, h6⟩, ?_⟩, ?_⟩, X.book⟩
    · show T.heap.size + R'.cells ≤ e.platform.maxCells
      omega
    · show T.slotsUsed + R'.slots ≤ e.platform.maxSlots
      omega
  · rw [State.stackLimits_setFrames]; rfl
  · rw [State.stackBytes_setFrames]; rfl
  · refine ⟨?_, Nat.le_refl _, Nat.le_refl _, ?_, ?_, fun a c9 h9 => ⟨c9, h9, rfl, rfl, fun _ _ => rfl⟩⟩
    · obtain ⟨t, ht, -⟩ := State.frames_cons hr
      show T.setVm s.vm = { ((T.setVm s.vm).setFrames (.invoking m args :: below)).setFrames (T.setVm s.vm).frames with heap := T.heap, slotsUsed := T.slotsUsed }
      rw [State.setFrames_setFrames, State.setFrames_self ht]
      rfl
    · show T.slotsUsed = T.slotsUsed + ((T.heap.toList.drop T.heap.size).map (·.slots.size)).sum
      rw [List.drop_eq_nil_of_le (Nat.le_of_eq Array.length_toList)]
      rfl
    · show ((T.heap.toList.drop T.heap.size).map (·.slots.size)).sum ≤ 0
      rw [List.drop_eq_nil_of_le (Nat.le_of_eq Array.length_toList)]
      exact Nat.le_refl _
/-- 'throw new E()': new; dup; invokespecial; athrow -/
theorem vx_throw0 {cc : ByteArray} {pc : Nat} (hexec : p.tables.exec = Jvm.exec) (hb : c.code = cc) (hl : l.stackTraces = false) {own cls : String} {names : List String} {ik ic mc ms : Nat} {A : Nat → Prop}
    (hown : s.vm.findClass own = some m.cls) (hcls : Bundle.fit cls = true) (hnames : ∀ n ∈ names, Bundle.fit n = true)
    (hk : (Cond.classLink own ik cls).before args s = true) (hini : (Cond.initialized cls).before args s = true) (hat : ∀ w ∈ vx_at0 own ic cls names, w.before args s = true)
    (hgood : ∀ w ∈ Cond.classLink own ik cls :: Cond.initialized cls :: vx_at0 own ic cls names, vx_ot w = true)
    (hU : vx_Zq Bundle.tN "UNASSIGNED_STACK" Bundle.steD A s s.heap) (hN : vx_Zq Bundle.tN "SUPPRESSED_SENTINEL" Bundle.listD A s s.heap) (hS : va_S A s.heap H locs) (hsize : ls.size = c.maxLocals)
    (d0 : decode cc pc = .ok (.new ik, 3)) (d3 : decode cc (pc + 3) = .ok (.dup, 1)) (d4 : decode cc (pc + 4) = .ok (.invokespecial ic, 3)) (d7 : decode cc (pc + 7) = .ok (.athrow, 1))
    (hout : ∀ x ∈ c.exceptionTable.toList, covers x (pc + 7) = false)
    (hRframes : names.length + 3 < R.frames) (hRlocals : (rest.map fun v => v.category).sum + (13 * (names.length + 1) + 42) ≤ R.locals) (hRcells : cells + 1 ≤ R.cells) (hRslots : slots + 6 ≤ R.slots) (hlocks : meth.locks = false)
    (hx : ∀ t : State, s.vm.Alike t.vm → H.size ≤ t.heap.size → (∀ q : Nat, q < H.size → t.heap[q]? = H[q]?) → XC cls s t)
    (hf : ∀ z ∈ locs, free z.base) (hc : cells + 1 ≤ mc) (hs : slots + 6 ≤ ms) :
    W p l e R s m args below meth c H locs cells slots (vx_MQ below Qc XC args s mc ms free) (F0 m pc ls rest) := by
  intro T hT X
  have htr : e.platform.stackTraces = false := (show e.platform.stackTraces = l.stackTraces by rw [X.admits.platform]).trans hl
  have Y := vx_rebase X (R' := { frames := R.frames, locals := R.locals, cells := 1, slots := 6 }) (Nat.le_refl _) (Nat.le_refl _) hRcells hRslots
  obtain ⟨s', hA⟩ : ∃ z, z = (T.setVm s.vm).setFrames (.invoking m args :: below) := ⟨_, rfl⟩
  rw [← hA] at Y
  have hvm : s'.vm = s.vm := by rw [hA]; rfl
  have hhp : s'.heap = H := by rw [hA]; exact hT
  have hW0 : s.WarmedH s'.vm := by rw [hvm]; exact State.WarmedH.refl s
  have hat' : ∀ w ∈ vx_at0 own ic cls names, w.before args s' = true := fun w hw => vx_ot_at hW0 hvm.symm (hgood w (List.mem_cons_of_mem _ (List.mem_cons_of_mem _ hw))) (hat w hw)
  have hk' : (Cond.classLink own ik cls).before args s' = true := vx_ot_at hW0 hvm.symm (hgood _ List.mem_cons_self) hk
  have hini' : (Cond.initialized cls).before args s' = true := vx_ot_at hW0 hvm.symm (hgood _ (List.mem_cons_of_mem _ List.mem_cons_self)) hini
  have hU' : vx_Zq Bundle.tN "UNASSIGNED_STACK" Bundle.steD A s' s'.heap := by rw [hhp]; exact vx_Zq.moved hW0.alike (hU.kept hS.2.1)
  have hN' : vx_Zq Bundle.tN "SUPPRESSED_SENTINEL" Bundle.listD A s' s'.heap := by rw [hhp]; exact vx_Zq.moved hW0.alike (hN.kept hS.2.1)
  have h : ∀ w ∈ Bundle.ownAtoms0 own ic cls names, w.before args s' = true := vx_own hat' (vx_isRefq hU'.1) (vx_isRefq hN'.1) hU'.2.word hN'.2.word
  have hown' : s'.vm.findClass own = some m.cls := by rw [hvm]; exact hown
  have hins : (Cond.instantiable cls 6).before args s' = true := h _ (by simp [Bundle.ownAtoms0])
  obtain ⟨vm₁, cX, kX, hfX, hkX, -, -, X₁, st1⟩ := Y.newCold hexec (own := own) (C := cls) (index := ik) (n := 6) hown' hk' hins hini'
    (g := F0 m pc ls rest) rfl (by rw [hb]; exact d0) (Nat.le_refl _) (Nat.le_refl _)
  generalize hT1 : (T.setVm vm₁).pushCell { cls := cX, slots := kX.instanceTypes.map defaultValue, vm := .none } = T1 at X₁ st1
  have hcat : (Value.ref T.heap.size).category = 1 := rfl
  have hcellA : T1.heap[T.heap.size]? = some (freshCell cX kX) := by rw [← hT1]; exact State.heap_pushCell_size _ _
  have d3' : decode c.code (pc + 3) = .ok (.dup, 1) := by rw [hb]; exact d3
  obtain ⟨U, hsteps, hrun, hend, hW, hsame, ce, hce, hO⟩ := X₁.ctorThrow0 hexec htr (own := own) (cls := cls) (names := names) (ic := ic) hown' hcls hnames h (fun x hx => nomatch hx) hfX hkX hcellA (by rw [hhp, hT]; exact Nat.le_refl _)
    (g := { method := m, pc := pc + 4, locals := ls, stack := .ref T.heap.size :: .ref T.heap.size :: rest, locked := none }) rfl hsize rfl rfl (rest := rest) rfl
    (by rw [hb]; exact d4) (by rw [hb]; exact d7) hout hRframes (by simp only [List.map_cons, List.sum_cons, hcat]; omega) hlocks
  obtain ⟨f1, f2⟩ := vx_frame hsame
  rw [hhp] at f1 f2
  have hWs : s.WarmedH U.vm := State.WarmedH.trans hW0 hW
  have hcl : s.vm.findClass cls = some ce.cls := by
    have h9 := hO.cls
    rw [hvm] at h9
    exact h9
  have hall : s.sameButNew ({ U with vm := s.vm } : State) locs mc ms := by
    subst hA
    obtain ⟨e1, e2⟩ := hsame
    rw [State.setFrames_setFrames] at e1
    have h2 : (T.setVm s.vm).sameButNew ({ U with vm := s.vm } : State) [] (0 + 1) (0 + 6) := ⟨e1, e2⟩
    have h3 := X.same.trans h2
    rw [List.append_nil] at h3
    exact h3.mono hc hs
  refine ⟨U, ?_, .threw T.heap.size, hrun, hend, Or.inr ⟨T.heap.size, rfl, cls, ce, locs, hx U hWs.alike f1 (fun q hq => f2 q hq (fun z hz => nomatch hz)), hce, hO.vm, hcl, hWs, hall, hf⟩⟩
  refine st1 _ ?_
  show Steps p.tables e below (T1.setTop { method := m, pc := pc + 3, locals := ls, stack := .ref T.heap.size :: rest, locked := none }) _
  jvm_step X₁.here [X₁.here.top, hexec, d3', Value.category]
  exact hsteps
/-- 'throw new E("text")': new; dup; ldc; invokespecial; athrow -/
theorem vx_throwS {cc : ByteArray} {pc : Nat} (hexec : p.tables.exec = Jvm.exec) (hb : c.code = cc) (hl : l.stackTraces = false) {own cls text : String} {names : List String} {ik is ic mc ms sa : Nat} {A : Nat → Prop}
    (hown : s.vm.findClass own = some m.cls) (hcls : Bundle.fit cls = true) (hnames : ∀ n ∈ names, Bundle.fit n = true)
    (hk : (Cond.classLink own ik cls).before args s = true) (hini : (Cond.initialized cls).before args s = true) (hstr : vk_R own is text sa s) (hat : ∀ w ∈ vx_atS own ic cls names, w.before args s = true)
    (hgood : ∀ w ∈ Cond.classLink own ik cls :: Cond.initialized cls :: vx_atS own ic cls names, vx_ot w = true)
    (hU : vx_Zq Bundle.tN "UNASSIGNED_STACK" Bundle.steD A s s.heap) (hN : vx_Zq Bundle.tN "SUPPRESSED_SENTINEL" Bundle.listD A s s.heap) (hS : va_S A s.heap H locs) (hsize : ls.size = c.maxLocals)
    (d0 : decode cc pc = .ok (.new ik, 3)) (d3 : decode cc (pc + 3) = .ok (.dup, 1)) (d4 : decode cc (pc + 4) = .ok (.ldc is, 2)) (d6 : decode cc (pc + 6) = .ok (.invokespecial ic, 3)) (d9 : decode cc (pc + 9) = .ok (.athrow, 1))
    (hout : ∀ x ∈ c.exceptionTable.toList, covers x (pc + 9) = false)
    (hRframes : names.length + 3 < R.frames) (hRlocals : (rest.map fun v => v.category).sum + (13 * (names.length + 1) + 43) ≤ R.locals) (hRcells : cells + 1 ≤ R.cells) (hRslots : slots + 6 ≤ R.slots) (hlocks : meth.locks = false)
    (hx : ∀ t : State, s.vm.Alike t.vm → H.size ≤ t.heap.size → (∀ q : Nat, q < H.size → t.heap[q]? = H[q]?) → XC cls s t)
    (hf : ∀ z ∈ locs, free z.base) (hc : cells + 1 ≤ mc) (hs : slots + 6 ≤ ms) :
    W p l e R s m args below meth c H locs cells slots (vx_MQ below Qc XC args s mc ms free) (F0 m pc ls rest) := by
  intro T hT X
  have htr : e.platform.stackTraces = false := (show e.platform.stackTraces = l.stackTraces by rw [X.admits.platform]).trans hl
  have Y := vx_rebase X (R' := { frames := R.frames, locals := R.locals, cells := 1, slots := 6 }) (Nat.le_refl _) (Nat.le_refl _) hRcells hRslots
  obtain ⟨s', hA⟩ : ∃ z, z = (T.setVm s.vm).setFrames (.invoking m args :: below) := ⟨_, rfl⟩
  rw [← hA] at Y
  have hvm : s'.vm = s.vm := by rw [hA]; rfl
  have hhp : s'.heap = H := by rw [hA]; exact hT
  have hW0 : s.WarmedH s'.vm := by rw [hvm]; exact State.WarmedH.refl s
  have hat' : ∀ w ∈ vx_atS own ic cls names, w.before args s' = true := fun w hw => vx_ot_at hW0 hvm.symm (hgood w (List.mem_cons_of_mem _ (List.mem_cons_of_mem _ hw))) (hat w hw)
  have hk' : (Cond.classLink own ik cls).before args s' = true := vx_ot_at hW0 hvm.symm (hgood _ List.mem_cons_self) hk
  have hini' : (Cond.initialized cls).before args s' = true := vx_ot_at hW0 hvm.symm (hgood _ (List.mem_cons_of_mem _ List.mem_cons_self)) hini
  have hU' : vx_Zq Bundle.tN "UNASSIGNED_STACK" Bundle.steD A s' s'.heap := by rw [hhp]; exact vx_Zq.moved hW0.alike (hU.kept hS.2.1)
  have hN' : vx_Zq Bundle.tN "SUPPRESSED_SENTINEL" Bundle.listD A s' s'.heap := by rw [hhp]; exact vx_Zq.moved hW0.alike (hN.kept hS.2.1)
  have h : ∀ w ∈ Bundle.ownAtoms own ic cls names, w.before args s' = true := vx_own hat' (vx_isRefq hU'.1) (vx_isRefq hN'.1) hU'.2.word hN'.2.word
  have hown' : s'.vm.findClass own = some m.cls := by rw [hvm]; exact hown
  have hins : (Cond.instantiable cls 6).before args s' = true := h _ (by simp [Bundle.ownAtoms])
  obtain ⟨vm₁, cX, kX, hfX, hkX, -, -, X₁, st1⟩ := Y.newCold hexec (own := own) (C := cls) (index := ik) (n := 6) hown' hk' hins hini'
    (g := F0 m pc ls rest) rfl (by rw [hb]; exact d0) (Nat.le_refl _) (Nat.le_refl _)
  generalize hT1 : (T.setVm vm₁).pushCell { cls := cX, slots := kX.instanceTypes.map defaultValue, vm := .none } = T1 at X₁ st1
  have hcat : (Value.ref T.heap.size).category = 1 := rfl
  have hcellA : T1.heap[T.heap.size]? = some (freshCell cX kX) := by rw [← hT1]; exact State.heap_pushCell_size _ _
  have d3' : decode c.code (pc + 3) = .ok (.dup, 1) := by rw [hb]; exact d3
  have d4' : decode c.code (pc + 4) = .ok (.ldc is, 2) := by rw [hb]; exact d4
  have hstr' : vk_R own is text sa s' := vk_R.warm hW0 hstr
  obtain ⟨U, hsteps, hrun, hend, hW, hsame, ce, hce, hO⟩ := X₁.ctorThrowS hexec htr (own := own) (cls := cls) (names := names) (ic := ic) hown' hcls hnames h (fun x hx => nomatch hx) hfX hkX hcellA (by rw [hhp, hT]; exact Nat.le_refl _) (msg := .ref sa) rfl
    (g := { method := m, pc := pc + 6, locals := ls, stack := .ref sa :: .ref T.heap.size :: .ref T.heap.size :: rest, locked := none }) rfl hsize rfl rfl (rest := rest) rfl
    (by rw [hb]; exact d6) (by rw [hb]; exact d9) hout hRframes (by simp only [List.map_cons, List.sum_cons, hcat]; omega) hlocks
  obtain ⟨f1, f2⟩ := vx_frame hsame
  rw [hhp] at f1 f2
  have hWs : s.WarmedH U.vm := State.WarmedH.trans hW0 hW
  have hcl : s.vm.findClass cls = some ce.cls := by
    have h9 := hO.cls
    rw [hvm] at h9
    exact h9
  have hall : s.sameButNew ({ U with vm := s.vm } : State) locs mc ms := by
    subst hA
    obtain ⟨e1, e2⟩ := hsame
    rw [State.setFrames_setFrames] at e1
    have h2 : (T.setVm s.vm).sameButNew ({ U with vm := s.vm } : State) [] (0 + 1) (0 + 6) := ⟨e1, e2⟩
    have h3 := X.same.trans h2
    rw [List.append_nil] at h3
    exact h3.mono hc hs
  refine ⟨U, ?_, .threw T.heap.size, hrun, hend, Or.inr ⟨T.heap.size, rfl, cls, ce, locs, hx U hWs.alike f1 (fun q hq => f2 q hq (fun z hz => nomatch hz)), hce, hO.vm, hcl, hWs, hall, hf⟩⟩
  refine st1 _ ?_
  show Steps p.tables e below (T1.setTop { method := m, pc := pc + 3, locals := ls, stack := .ref T.heap.size :: rest, locked := none }) _
  jvm_step X₁.here [X₁.here.top, hexec, d3', Value.category]
  exact X₁.ldcString hexec (own := own) (text := text) (index := is) (a := sa) hown' hstr'.1 hstr'.2
    (g := { method := m, pc := pc + 4, locals := ls, stack := .ref T.heap.size :: .ref T.heap.size :: rest, locked := none }) rfl d4' _ hsteps
/-- 'throw new E("text")', the text by a wide index -/
theorem vx_throwSW {cc : ByteArray} {pc : Nat} (hexec : p.tables.exec = Jvm.exec) (hb : c.code = cc) (hl : l.stackTraces = false) {own cls text : String} {names : List String} {ik is ic mc ms sa : Nat} {A : Nat → Prop}
    (hown : s.vm.findClass own = some m.cls) (hcls : Bundle.fit cls = true) (hnames : ∀ n ∈ names, Bundle.fit n = true)
    (hk : (Cond.classLink own ik cls).before args s = true) (hini : (Cond.initialized cls).before args s = true) (hstr : vk_R own is text sa s) (hat : ∀ w ∈ vx_atS own ic cls names, w.before args s = true)
    (hgood : ∀ w ∈ Cond.classLink own ik cls :: Cond.initialized cls :: vx_atS own ic cls names, vx_ot w = true)
    (hU : vx_Zq Bundle.tN "UNASSIGNED_STACK" Bundle.steD A s s.heap) (hN : vx_Zq Bundle.tN "SUPPRESSED_SENTINEL" Bundle.listD A s s.heap) (hS : va_S A s.heap H locs) (hsize : ls.size = c.maxLocals)
    (d0 : decode cc pc = .ok (.new ik, 3)) (d3 : decode cc (pc + 3) = .ok (.dup, 1)) (d4 : decode cc (pc + 4) = .ok (.ldc_w is, 3)) (d7 : decode cc (pc + 7) = .ok (.invokespecial ic, 3)) (d10 : decode cc (pc + 10) = .ok (.athrow, 1))
    (hout : ∀ x ∈ c.exceptionTable.toList, covers x (pc + 10) = false)
    (hRframes : names.length + 3 < R.frames) (hRlocals : (rest.map fun v => v.category).sum + (13 * (names.length + 1) + 43) ≤ R.locals) (hRcells : cells + 1 ≤ R.cells) (hRslots : slots + 6 ≤ R.slots) (hlocks : meth.locks = false)
    (hx : ∀ t : State, s.vm.Alike t.vm → H.size ≤ t.heap.size → (∀ q : Nat, q < H.size → t.heap[q]? = H[q]?) → XC cls s t)
    (hf : ∀ z ∈ locs, free z.base) (hc : cells + 1 ≤ mc) (hs : slots + 6 ≤ ms) :
    W p l e R s m args below meth c H locs cells slots (vx_MQ below Qc XC args s mc ms free) (F0 m pc ls rest) := by
  intro T hT X
  have htr : e.platform.stackTraces = false := (show e.platform.stackTraces = l.stackTraces by rw [X.admits.platform]).trans hl
  have Y := vx_rebase X (R' := { frames := R.frames, locals := R.locals, cells := 1, slots := 6 }) (Nat.le_refl _) (Nat.le_refl _) hRcells hRslots
  obtain ⟨s', hA⟩ : ∃ z, z = (T.setVm s.vm).setFrames (.invoking m args :: below) := ⟨_, rfl⟩
  rw [← hA] at Y
  have hvm : s'.vm = s.vm := by rw [hA]; rfl
  have hhp : s'.heap = H := by rw [hA]; exact hT
  have hW0 : s.WarmedH s'.vm := by rw [hvm]; exact State.WarmedH.refl s
  have hat' : ∀ w ∈ vx_atS own ic cls names, w.before args s' = true := fun w hw => vx_ot_at hW0 hvm.symm (hgood w (List.mem_cons_of_mem _ (List.mem_cons_of_mem _ hw))) (hat w hw)
  have hk' : (Cond.classLink own ik cls).before args s' = true := vx_ot_at hW0 hvm.symm (hgood _ List.mem_cons_self) hk
  have hini' : (Cond.initialized cls).before args s' = true := vx_ot_at hW0 hvm.symm (hgood _ (List.mem_cons_of_mem _ List.mem_cons_self)) hini
  have hU' : vx_Zq Bundle.tN "UNASSIGNED_STACK" Bundle.steD A s' s'.heap := by rw [hhp]; exact vx_Zq.moved hW0.alike (hU.kept hS.2.1)
  have hN' : vx_Zq Bundle.tN "SUPPRESSED_SENTINEL" Bundle.listD A s' s'.heap := by rw [hhp]; exact vx_Zq.moved hW0.alike (hN.kept hS.2.1)
  have h : ∀ w ∈ Bundle.ownAtoms own ic cls names, w.before args s' = true := vx_own hat' (vx_isRefq hU'.1) (vx_isRefq hN'.1) hU'.2.word hN'.2.word
  have hown' : s'.vm.findClass own = some m.cls := by rw [hvm]; exact hown
  have hins : (Cond.instantiable cls 6).before args s' = true := h _ (by simp [Bundle.ownAtoms])
  obtain ⟨vm₁, cX, kX, hfX, hkX, -, -, X₁, st1⟩ := Y.newCold hexec (own := own) (C := cls) (index := ik) (n := 6) hown' hk' hins hini'
    (g := F0 m pc ls rest) rfl (by rw [hb]; exact d0) (Nat.le_refl _) (Nat.le_refl _)
  generalize hT1 : (T.setVm vm₁).pushCell { cls := cX, slots := kX.instanceTypes.map defaultValue, vm := .none } = T1 at X₁ st1
  have hcat : (Value.ref T.heap.size).category = 1 := rfl
  have hcellA : T1.heap[T.heap.size]? = some (freshCell cX kX) := by rw [← hT1]; exact State.heap_pushCell_size _ _
  have d3' : decode c.code (pc + 3) = .ok (.dup, 1) := by rw [hb]; exact d3
  have d4' : decode c.code (pc + 4) = .ok (.ldc_w is, 3) := by rw [hb]; exact d4
  have hstr' : vk_R own is text sa s' := vk_R.warm hW0 hstr
  obtain ⟨U, hsteps, hrun, hend, hW, hsame, ce, hce, hO⟩ := X₁.ctorThrowS hexec htr (own := own) (cls := cls) (names := names) (ic := ic) hown' hcls hnames h (fun x hx => nomatch hx) hfX hkX hcellA (by rw [hhp, hT]; exact Nat.le_refl _) (msg := .ref sa) rfl
    (g := { method := m, pc := pc + 7, locals := ls, stack := .ref sa :: .ref T.heap.size :: .ref T.heap.size :: rest, locked := none }) rfl hsize rfl rfl (rest := rest) rfl
    (by rw [hb]; exact d7) (by rw [hb]; exact d10) hout hRframes (by simp only [List.map_cons, List.sum_cons, hcat]; omega) hlocks
  obtain ⟨f1, f2⟩ := vx_frame hsame
  rw [hhp] at f1 f2
  have hWs : s.WarmedH U.vm := State.WarmedH.trans hW0 hW
  have hcl : s.vm.findClass cls = some ce.cls := by
    have h9 := hO.cls
    rw [hvm] at h9
    exact h9
  have hall : s.sameButNew ({ U with vm := s.vm } : State) locs mc ms := by
    subst hA
    obtain ⟨e1, e2⟩ := hsame
    rw [State.setFrames_setFrames] at e1
    have h2 : (T.setVm s.vm).sameButNew ({ U with vm := s.vm } : State) [] (0 + 1) (0 + 6) := ⟨e1, e2⟩
    have h3 := X.same.trans h2
    rw [List.append_nil] at h3
    exact h3.mono hc hs
  refine ⟨U, ?_, .threw T.heap.size, hrun, hend, Or.inr ⟨T.heap.size, rfl, cls, ce, locs, hx U hWs.alike f1 (fun q hq => f2 q hq (fun z hz => nomatch hz)), hce, hO.vm, hcl, hWs, hall, hf⟩⟩
  refine st1 _ ?_
  show Steps p.tables e below (T1.setTop { method := m, pc := pc + 3, locals := ls, stack := .ref T.heap.size :: rest, locked := none }) _
  jvm_step X₁.here [X₁.here.top, hexec, d3', Value.category]
  exact X₁.ldcStringW hexec (own := own) (text := text) (index := is) (a := sa) hown' hstr'.1 hstr'.2
    (g := { method := m, pc := pc + 4, locals := ls, stack := .ref T.heap.size :: .ref T.heap.size :: rest, locked := none }) rfl d4' _ hsteps
end Ends
section Bodies
variable {l : Launch}
theorem vx_ofW {y : MethodName} {ws ws' : List Cond} {rm : Room} {Pc : Array Value → State → Prop} {Qc : Array Value → State → Outcome → State → Prop} {XC : String → State → State → Prop} {mc ms : Nat} {free : Addr → Prop} {cc : ByteArray} {maxL : Nat} {ret : Option FieldType}
    (hy : plainName y.cls = true) (hw : ws = Cond.code y cc maxL ret :: ws')
    (body : ∀ p e s m args below meth c s₁, BodyLoose p l y (headSpec ws rm) cc maxL ret e s m args below meth c s₁ → c.maxLocals = maxL → (∀ x ∈ c.exceptionTable.toList, False) → Pc args s →
      W p l e (headSpec ws rm).room s m args below meth c s.heap [] 0 0 (vx_MQ below Qc XC args s mc ms free) (entryFrame m args maxL)) : vx_Met l y ws rm Pc Qc XC mc ms free := by
  refine MetFree.of_bodyS (code := cc) (maxLocals := maxL) (ret := ret) hy ?_ ?_
  · intro args s m h hn
    obtain ⟨meth, c, h1, h2, h3, h4, h5, h6, -, -⟩ := Cond.code_spec hn (atoms_spec (ws := ws) h _ (by rw [hw]; exact List.mem_cons_self))
    exact ⟨meth, c, h1, h2, h3, h4, h5, h6⟩
  · intro p e s m args below meth c s₁ B hml hP _
    have hh0 : s₁.heap = s.heap := by rw [B.state]; rfl
    have ht : ∀ x ∈ c.exceptionTable.toList, False := by
      obtain ⟨meth9, c9, h1, h2, -, -, -, -, h7, -⟩ := Cond.code_spec B.named (atoms_spec (ws := ws) B.pre _ (by rw [hw]; exact List.mem_cons_self))
      cases Option.some.inj (h1.symm.trans B.method)
      cases Option.some.inj (h2.symm.trans (Stand.of_body B).code)
      intro x hx
      rw [Array.isEmpty_iff.mp h7] at hx
      cases hx
    obtain ⟨t, a1, o, b1, b2, b3⟩ := body p e s m args below meth c s₁ B hml ht hP s₁ hh0 (Stand.of_body B)
    exact ⟨t, o, a1, b1, b2, b3⟩
/-- the table of a body with handlers -/
theorem vx_table {p : Program} {x y : MethodName} {S : Spec} {cc bytes : ByteArray} {maxL maxL' : Nat} {ret ret' : Option FieldType} {e : Env} {s s₁ : State} {m : MethodId} {args : Array Value} {below : List Frame} {meth : Method} {c : Code} {hh : List (Nat × Nat × Nat × Nat)}
    (B : BodyLoose p l y S cc maxL ret e s m args below meth c s₁) (h : (Cond.codeWith y bytes maxL' ret' hh).before args s = true) : c.exceptionTable.toList = tableOf hh := by
  obtain ⟨m9, meth9, c9, hn9, h1, h2, -, -, h6, -⟩ := Cond.codeWith_spec h
  cases Option.some.inj (hn9.symm.trans B.named)
  cases Option.some.inj (h1.symm.trans B.method)
  cases Option.some.inj (h2.symm.trans (Stand.of_body B).code)
  rw [← h6, table_eq]
end Bodies
end VXA
/-! ===== END ===== -/
/-! ===== BEGIN a static call of a method with an exception table ===== -/
section VXS
variable {p : Program} {l : Launch} {e : Env} {R : Room} {s : State} {m : MethodId} {args : Array Value} {below : List Frame} {meth : Method} {c : Code} {T : State} {H : Heap} {locs : List Loc} {cells slots : Nat}
abbrev vx_CSW (R : Room) (s : State) (args : Array Value) (own : String) (index : Nat) (y : MethodName) (bytes : ByteArray) (maxL : Nat) (ret : Option FieldType) (hh : List (Nat × Nat × Nat × Nat)) (ws : List Cond) (rm : Room) (mc ms n : Nat) : Prop :=
  (rm.cells = mc ∧ rm.slots = ms ∧ rm.frames + 1 ≤ R.frames ∧ 8 + (maxL + 11) + rm.locals ≤ R.locals ∧ (∀ w ∈ ws, ∀ (a' : Array Value) (U : State), s.WarmedH U.vm → w.before a' U = true) ∧ Cond.codeWith y bytes maxL ret hh ∈ ws) ∧
  (Cond.codeWith y bytes maxL ret hh).before args s = true ∧ (Cond.initialized y.cls).before args s = true ∧ (y.cls ≠ "java/lang/invoke/MethodHandle" ∧ y.cls ≠ "java/lang/invoke/VarHandle") ∧
  (∀ sig, parseMethodDescriptor y.desc = some sig → n = sig.parameters.length) ∧ (Cond.methodLink own index y).before args s = true ∧ (Cond.static y).before args s = true
theorem vx_cwSW {own : String} {index maxL mc ms : Nat} {y : MethodName} {bytes : ByteArray} {ret : Option FieldType} {hh : List (Nat × Nat × Nat × Nat)} {Ts ws ws' : List Cond} {rm : Room} (n : Nat) (ht : ∀ w ∈ Ts, w.before args s = true) (hT : GoodIn Ts (va_wsS own index y ws)) (hw : ws = Cond.codeWith y bytes maxL ret hh :: ws') (hrc : rm.cells = mc) (hrs : rm.slots = ms)
    (hd : y.cls ≠ "java/lang/invoke/MethodHandle" ∧ y.cls ≠ "java/lang/invoke/VarHandle" ∧ (parseMethodDescriptor y.desc).map (fun d => d.parameters.length) = some n) (hR : rm.frames + 1 ≤ R.frames ∧ 8 + (maxL + 11) + rm.locals ≤ R.locals) :
    vx_CSW R s args own index y bytes maxL ret hh ws rm mc ms n := by
  have ok : ∀ w ∈ va_wsS own index y ws, w.before args s = true := fun w h => ht w (hT w h).1
  have hG : GoodIn Ts ws := fun w h => hT w (by unfold va_wsS; exact List.mem_append_right _ h)
  have hc : Cond.codeWith y bytes maxL ret hh ∈ ws := by rw [hw]; exact List.mem_cons_self
  refine ⟨⟨hrc, hrs, hR.1, hR.2, pay_in ht hG, hc⟩, ht _ (hG _ hc).1, ok _ (by simp [va_wsS]), ⟨hd.1, hd.2.1⟩, fun sig h => ?_, ok _ (by simp [va_wsS]), ok _ (by simp [va_wsS])⟩
  have h2 := hd.2.2
  rw [h] at h2
  exact (Option.some.inj h2).symm
theorem vx_callSW (X : Stand p l e R s m args below meth c T locs cells slots) (hexec : p.tables.exec = Jvm.exec) {own : String} {index : Nat} {y : MethodName} {bytes : ByteArray} {maxL : Nat} {ret : Option FieldType} {hh : List (Nat × Nat × Nat × Nat)}
    (hown : s.vm.findClass own = some m.cls) (hlink : (Cond.methodLink own index y).before args s = true) (hstat : (Cond.static y).before args s = true) (hinit : (Cond.initialized y.cls).before args s = true)
    (hcode : (Cond.codeWith y bytes maxL ret hh).before args s = true) (hy : y.cls ≠ "java/lang/invoke/MethodHandle" ∧ y.cls ≠ "java/lang/invoke/VarHandle")
    {W9 : Nat} {Pre : Pt → Array Value → Prop} {Post : Pt → Array Value → Option Value → Pt → Prop} (hK : Back l R p e below s args y 3 W9 Pre Post)
    {g : JFrame} (hg : g.method = m) (hsize : g.locals.size = c.maxLocals) {argsL rest : List Value} (hlen : ∀ sig, parseMethodDescriptor y.desc = some sig → argsL.length = sig.parameters.length)
    (hstack : g.stack = argsL.reverse ++ rest) (hW : 2 * g.monitorRoom + (rest.map fun v => v.category).sum ≤ W9) (hdg : decode c.code g.pc = .ok (.invokestatic index, 3))
    (hpre : ∀ vm₁, s.WarmedH vm₁ → Pre ⟨T.setVm vm₁, locs, cells, slots⟩ argsL.toArray) :
    ∃ (v : Option Value) (vm₁ : Vm) (B : Pt), s.WarmedH vm₁ ∧ Stand p l e R s m args below meth c B.U B.locs B.cells B.slots ∧ Post ⟨T.setVm vm₁, locs, cells, slots⟩ argsL.toArray v B ∧
      ∀ target, Steps p.tables e below (B.U.setTop { g with pc := g.pc + 3, stack := v.toList ++ rest }) target → Steps p.tables e below (T.setTop g) target := by
  obtain ⟨mk, methM, cM, hnamed, hmethM, -, -, -, -, -, -, hsigM⟩ := Cond.codeWith_spec hcode
  have hstatic : methM.isStatic = true := Cond.static_spec hnamed hmethM hstat
  obtain ⟨kP, hkP, -⟩ := className_of_methodNamed hnamed
  have hinitP : kP.init = .initialized := Cond.initialized_spec (findClass_of_methodNamed hnamed) hkP hinit
  obtain ⟨vm₁, X₁, hstep₁⟩ := X.invokestatic hexec hown hlink hnamed hmethM hstatic hkP hinitP hy (g := g) hg (argsL := argsL) (rest := rest) (hlen _ hsigM) hstack hdg
  obtain ⟨v, B, X', hpost, hsteps⟩ := hK m meth c ⟨T.setVm vm₁, locs, cells, slots⟩ { g with stack := rest } (.invokestatic index) mk argsL.toArray X₁ hg hsize hdg hW (X₁.named hnamed) (hpre vm₁ X₁.warmed)
  exact ⟨v, vm₁, B, X₁.warmed, X', hpost, fun target h => hstep₁ _ fun acts => by rw [doInvoke_state]; exact hsteps.trans h⟩
theorem vx_runSW {y : MethodName} {bytes cc : ByteArray} {maxL nL mc ms n index : Nat} {ret : Option FieldType} {hh : List (Nat × Nat × Nat × Nat)} {ws : List Cond} {rm : Room} {Pc : Array Value → State → Prop} {Qc : Array Value → State → Outcome → State → Prop} {free : Addr → Prop} {Ts : List Cond} {own : String} {As rest : List Value} {g : JFrame}
    (S : CallFix p m c cc nL s args Ts own) (hM : Met l y ws rm Pc Qc mc ms free) (cw : vx_CSW R s args own index y bytes maxL ret hh ws rm mc ms n) (hp : PreS s H Pc As)
    (hg : g.method = m) (hn : As.length = n) (hsize : g.locals.size = nL) (hstack : g.stack = As.reverse ++ rest) (hW : 2 * g.monitorRoom + (rest.map fun v => v.category).sum ≤ 8) (hdg : decode cc g.pc = .ok (.invokestatic index, 3)) (hf : cells + mc ≤ R.cells ∧ slots + ms ≤ R.slots) :
    va_Run p l e R s m args below meth c H locs cells slots mc ms g rest (Qc As.toArray) (free) := by
  obtain ⟨⟨hrc, hrs, hfr, hlo, hws, hcw⟩, hcode, hini, hy, hlen, hl, hstt⟩ := cw
  have hK : Back l R p e below s args y 3 8 (PreOf R mc ms Pc) (PostOf Qc mc ms free) := va_backW (hh := hh) (bytes := bytes) (maxL := maxL) (ret := ret) hM hp.1 hrc hrs hfr hlo hws hcw (fun a' U hW => word_at hW (Or.inl (by first | rfl | simp [Cond.onTables, Cond.keeps, Cond.steady])) hini)
  obtain ⟨hx, hb, hml, ho, -⟩ := S
  intro T hT X
  obtain ⟨v, vm₁, ⟨U', l2, c2, s2⟩, hW₁, X', ⟨g', mk, t, L, e1, e2, hq, h1, hL, h2, h3⟩, st⟩ := vx_callSW X hx (hh := hh) (bytes := bytes) (maxL := maxL) (ret := ret) ho hl hstt hini hcode hy hK hg (hsize.trans hml.symm) (argsL := As) (rest := rest) (fun sig h => hn.trans (hlen sig h)) hstack hW (by rw [hb]; exact hdg)
    (fun vm₁ hW₁ => ⟨hf.1, hf.2, hp.2 (T.setVm vm₁) hT hW₁⟩)
  dsimp only [Pt.U, Pt.locs, Pt.cells, Pt.slots] at X' e1 e2 h1 h2 h3 st
  subst h1; subst h2; subst h3
  exact ⟨v, (T.setVm vm₁).calling g' mk As.toArray, t, U', L, hT, X', hL, e1, e2, hq, st⟩
/-- not caught here, past rows that name other classes: it goes on to the caller -/
theorem vx_outP {p : Program} {l : Launch} {e : Env} {R : Room} {s : State} {m : MethodId} {args : Array Value} {below : List Frame} {meth : Method} {c : Code} {H : Heap} {locs : List Loc} {cells slots : Nat} {free : Addr → Prop} {ls : Array Slot} {rest : List Value} {Qc : Array Value → State → Outcome → State → Prop} {XC : String → State → State → Prop}
    {pc : Nat} {own E : String} {ce : Cell} {q : Addr} {mc ms : Nat} (hown : s.vm.findClass own = some m.cls) (hlocks : meth.locks = false)
    (hpass : ∀ z ∈ c.exceptionTable.toList, covers z pc = false ∨ (z.catchType ≠ 0 ∧ ∃ nm : String, (Cond.classLink own z.catchType nm).before args s = true ∧ va_Nc E nm s)) (hcell : H[q]? = some ce) (hv : ce.vm = .none) (hcl : s.vm.findClass E = some ce.cls)
    (hx : ∀ t : State, t.heap = H → s.vm.Alike t.vm → XC E s t) (hf : ∀ z ∈ locs, free z.base) (hc : cells ≤ mc) (hs : slots ≤ ms) :
    vx_W p l e R s m args below meth c H locs cells slots (vx_MQ below Qc XC args s mc ms free) (F0 m pc ls rest) q := by
  intro T hT X
  have hpl : e.platform.magicAccessors = ({} : Platform).magicAccessors := by rw [X.admits.platform]
  obtain ⟨vm', hW', X', st⟩ := X.outThrough hlocks q (g := F0 m pc ls rest) rfl rfl rfl (cell := ce) (by rw [hT]; exact hcell) (by rw [hv]; rfl)
    (by obtain ⟨k9, h9, -⟩ := Vm.findClass_spec hcl; exact ⟨k9, h9⟩) (fun z hz => by
      rcases hpass z hz with h | ⟨hz0, nm, hl1, hn1⟩
      · exact Or.inl h
      · obtain ⟨c6, hc6, hcl6⟩ := Cond.classLink_spec hown hl1 e.platform hpl
        obtain ⟨a8, b8, h1, h2, h3⟩ := hn1
        cases Option.some.inj (h1.symm.trans hcl)
        cases Option.some.inj (h2.symm.trans hc6)
        exact Or.inr ⟨hz0, _, hcl6, h3⟩)
  obtain ⟨g₀, hfr⟩ := X'.frames_eq
  have hcell9 : ((T.setVm vm').setFrames (.throwing q :: below)).heap[q]? = some ce := by
    show T.heap[q]? = some ce
    rw [hT]; exact hcell
  have hend : Ended ((T.setVm vm').setFrames (.throwing q :: below)) below (.threw q) := State.frames_setFrames _ (State.cur_lt_of_frames hfr)
  refine ⟨(T.setVm vm').setFrames (.throwing q :: below), ?_, .threw q, X'.here.running, hend, Or.inr ⟨q, rfl, E, ce, locs, hx _ hT (X'.ends _).1.alike, hcell9, hv, hcl, (X'.ends _).1, (X'.ends _).2.mono hc hs, hf⟩⟩
  rw [X.pushThrowing_eq]
  exact st
/-- a thing of a world lies in the heap -/
theorem vx_lt {D : va_G} {cl : List vw_C} {ws : va_W} {H1 : Heap} (h : va_P D cl ws H1) {k : Nat} {q : Nat × va_E} (hk : ws[k]? = some q) : q.1 < H1.size := (h k q hk).lt
end VXS
/-! ===== END ===== -/
/-! ===== BEGIN methods with a table of their own: called by a name, returning or throwing ===== -/
section VXH
/-! vx_backW, vx_callVX, vx_callSX, vx_callVW, vx_runVW, vx_runVX, vx_runSX, vx_ofWH follow the same proofs as their sisters above (Free/Laws.lean, Shelf42/LK1.lean); vx_outP calls Shelf42/NT130.lean (outThrough). -/
section
variable {l : Launch} {R : Room} {p : Program} {e : Env} {below : List Frame} {s : State} {sargs : Array Value} {y : MethodName} {len W9 : Nat}
theorem vx_backW {ws : List Cond} {rm : Room} {Pc : Array Value → State → Prop} {Qc : Array Value → State → Outcome → State → Prop} {XC : String → State → State → Prop} {mc ms : Nat} {free : Addr → Prop} {bytes : ByteArray} {maxL : Nat} {ret : Option FieldType} {hh : List (Nat × Nat × Nat × Nat)}
    (hM : vx_Met l y ws rm Pc Qc XC mc ms free) (hblind : FrameBlind Pc) (hrc : rm.cells = mc) (hrs : rm.slots = ms)
    (hframes : rm.frames + 1 ≤ R.frames) (hlocals : W9 + (maxL + 11) + rm.locals ≤ R.locals)
    (hws : ∀ w ∈ ws, ∀ a' U, s.WarmedH U.vm → w.before a' U = true) (hcode : Cond.codeWith y bytes maxL ret hh ∈ ws) (hinit : ∀ a' U, s.WarmedH U.vm → (Cond.initialized y.cls).before a' U = true) :
    vx_Back l R p e below s sargs y len W9 (PreOf R mc ms Pc) (PostOf Qc mc ms free) (vx_Post XC mc ms free) := by
  intro m meth c A g ig mk a X hg hsize hdg hW hn hp
  have h1 : (headSpec ws rm).pre.before a A.U = true := atoms_intro fun w hw => hws w hw _ _ X.warmed
  have h2 : (Cond.codeWith y bytes maxL ret hh).before a A.U = true := hws _ hcode _ _ X.warmed
  have h3 : (Cond.initialized y.cls).before a A.U = true := hinit _ _ X.warmed
  have h4 : A.cells + (headSpec ws rm).room.cells ≤ R.cells := by rw [show (headSpec ws rm).room.cells = mc from hrc]; exact hp.1
  have h5 : A.slots + (headSpec ws rm).room.slots ≤ R.slots := by rw [show (headSpec ws rm).room.slots = ms from hrs]; exact hp.2.1
  have hPc : Pc a (A.U.calling g mk a) := hblind _ _ _ _ hp.2.2
  obtain ⟨U, Ls, c0, s0⟩ := A
  dsimp only [Pt.U, Pt.locs, Pt.cells, Pt.slots] at h1 h2 h3 h4 h5 X hn hPc ⊢
  obtain ⟨m9, methY, cY, hn9, hmY, hcY, -, hlY, -⟩ := Cond.codeWith_spec h2
  cases Option.some.inj (hn9.symm.trans hn)
  obtain ⟨kY, hkY, -⟩ := className_of_methodNamed hn
  have hinitY : kY.init = .initialized := Cond.initialized_spec (findClass_of_methodNamed hn) hkY h3
  have h : At U g.method c below := by rw [hg]; exact X.here
  have hlocals9 : W9 + (maxL + 11) + (headSpec ws rm).room.locals ≤ R.locals := hlocals
  have happ : (headSpec ws rm).appliesLoose y e.platform (U.calling g mk a) = true :=
    Spec.appliesLoose_calling (g := g) h hdg hn hkY hinitY
      (X.room_calling (g := g) (R' := (headSpec ws rm).room) hsize hmY hcY hframes (by rw [hlY]; omega) h4 h5) h1
  obtain ⟨mid, hmid⟩ := h.above
  have hfr : (U.setTop g).frames = (.java g :: mid) ++ below := by rw [State.frames_setTop' g h.top, hmid]; rfl
  obtain ⟨o, s₂, hsteps, -, hend, hq⟩ := Steps.callFree hM p X.admits X.cas X.clock (acts := []) hfr happ hPc trivial
  have hq' : vx_Q Qc XC mc ms free a (U.calling g mk a) o s₂ := hq
  rw [State.frames_setTop' g h.top] at hend
  obtain ⟨g₀, hg0⟩ := Option.isSome_iff_exists.mp h.top
  obtain ⟨r, hr⟩ := State.topJava?_eq_some.mp hg0
  have hr' : (({ U with heap := s₂.heap, slotsUsed := s₂.slotsUsed } : State).setVm s₂.vm).frames = .java g₀ :: r := hr
  rcases hq' with ⟨hqc, L, hfe, hL⟩ | ⟨q, rfl, E, ce, L, hx, hce, hcv, hcl, hW₂, hsm, hL⟩
  · obtain ⟨⟨v, rfl⟩, hW₂, e2, q2, q3, q4, q5, q6⟩ := id hfe
    have e3 : s₂ = ({ (U.calling g mk a).setFrames s₂.frames with heap := s₂.heap, slotsUsed := s₂.slotsUsed } : State).setVm s₂.vm := by
      have : s₂ = ({ s₂ with vm := (U.calling g mk a).vm } : State).setVm s₂.vm := rfl
      rw [e2] at this
      exact this
    obtain ⟨c₂, i₂, len₂, hc₂, hd₂, hf₂⟩ := hend
    have hW' : U.WarmedH s₂.vm := hW₂
    have hcc : c₂ = c := by
      have h1 : s₂.code? g.method = U.code? g.method := by
        rw [State.code?_eq, State.code?_eq, hW'.alike.method?]
      exact Option.some.inj (hc₂.symm.trans (h1.trans h.code))
    subst hcc
    have hlen : len₂ = len := by rw [hdg] at hd₂; cases hd₂; rfl
    subst hlen
    have hs₂ : s₂ = (({ U with heap := s₂.heap, slotsUsed := s₂.slotsUsed } : State).setVm s₂.vm).setTop { g with pc := g.pc + len₂, stack := v.toList ++ g.stack } := by
      refine e3.trans ?_
      rw [hf₂, State.calling_eq h.top, State.setFrames_setFrames, State.setTop_of_frames _ hr', hr]
      rfl
    have hsame : U.sameButNew ({ U with heap := s₂.heap, slotsUsed := s₂.slotsUsed } : State) L mc ms := by
      refine ⟨?_, q2, q3, q4, q5, q6⟩
      obtain ⟨t, ht, -⟩ := State.frames_cons hr
      show ({ U with heap := s₂.heap, slotsUsed := s₂.slotsUsed } : State) = { U.setFrames U.frames with heap := s₂.heap, slotsUsed := s₂.slotsUsed }
      rw [State.setFrames_self ht]
    subst hg
    refine Or.inl ⟨v, ⟨(({ U with heap := s₂.heap, slotsUsed := s₂.slotsUsed } : State).setVm s₂.vm), Ls ++ L, c0 + mc, s0 + ms⟩,
      ⟨X.admits, X.cas, X.clock, X.frames, X.room, X.hears, X.method, X.code, (X.here.setHeapUsed s₂.heap s₂.slotsUsed).setVm hW'.alike, X.tail, State.WarmedH.trans X.warmed hW', X.limits, X.bytes, X.same.trans (hsame.setVm s.vm)⟩,
      ⟨g, mk, s₂, L, rfl, rfl, hqc, rfl, hL, rfl, rfl⟩, ?_⟩
    show Steps p.tables e below _ ((({ U with heap := s₂.heap, slotsUsed := s₂.slotsUsed } : State).setVm s₂.vm).setTop { g with pc := g.pc + len₂, stack := v.toList ++ g.stack })
    rw [← hs₂]
    exact hsteps
  · obtain ⟨e2, q2, q3, q4, q5, q6⟩ := id hsm
    have e3 : s₂ = ({ (U.calling g mk a).setFrames s₂.frames with heap := s₂.heap, slotsUsed := s₂.slotsUsed } : State).setVm s₂.vm := by
      have : s₂ = ({ s₂ with vm := (U.calling g mk a).vm } : State).setVm s₂.vm := rfl
      rw [e2] at this
      exact this
    have hf₂ : s₂.frames = .throwing q :: .java g :: U.frames.tail := hend
    have hW' : U.WarmedH s₂.vm := hW₂
    have hs₂ : s₂ = ((({ U with heap := s₂.heap, slotsUsed := s₂.slotsUsed } : State).setVm s₂.vm).setTop g).pushFrame (.throwing q) := by
      refine e3.trans ?_
      rw [hf₂, State.calling_eq h.top, State.setFrames_setFrames, State.pushFrame, State.frames_setTop _ hr', State.setTop_of_frames _ hr', State.setFrames_setFrames, hr]
      rfl
    have hsame : U.sameButNew ({ U with heap := s₂.heap, slotsUsed := s₂.slotsUsed } : State) L mc ms := by
      refine ⟨?_, q2, q3, q4, q5, q6⟩
      obtain ⟨t, ht, -⟩ := State.frames_cons hr
      show ({ U with heap := s₂.heap, slotsUsed := s₂.slotsUsed } : State) = { U.setFrames U.frames with heap := s₂.heap, slotsUsed := s₂.slotsUsed }
      rw [State.setFrames_self ht]
    subst hg
    refine Or.inr ⟨q, ⟨(({ U with heap := s₂.heap, slotsUsed := s₂.slotsUsed } : State).setVm s₂.vm), Ls ++ L, c0 + mc, s0 + ms⟩,
      ⟨X.admits, X.cas, X.clock, X.frames, X.room, X.hears, X.method, X.code, (X.here.setHeapUsed s₂.heap s₂.slotsUsed).setVm hW'.alike, X.tail, State.WarmedH.trans X.warmed hW', X.limits, X.bytes, X.same.trans (hsame.setVm s.vm)⟩,
      ⟨g, mk, s₂, L, E, ce, rfl, rfl, hx, hce, hcv, hcl, rfl, hL, rfl, rfl⟩, ?_⟩
    show Steps p.tables e below _ (((({ U with heap := s₂.heap, slotsUsed := s₂.slotsUsed } : State).setVm s₂.vm).setTop g).pushFrame (.throwing q))
    rw [← hs₂]
    exact hsteps
end
variable {p : Program} {l : Launch} {e : Env} {R : Room} {s : State} {m : MethodId} {args : Array Value} {below : List Frame} {meth : Method} {c : Code} {T : State} {H : Heap} {locs : List Loc} {cells slots : Nat}
theorem vx_callVX (X : Stand p l e R s m args below meth c T locs cells slots) (hexec : p.tables.exec = Jvm.exec) {own C : String} {index : Nat} {y : MethodName} {bytes : ByteArray} {maxL : Nat} {ret : Option FieldType} {hh : List (Nat × Nat × Nat × Nat)}
    (hown : s.vm.findClass own = some m.cls) (hlink : (Cond.methodLink own index y).before args s = true) (hinst : (Cond.instanceMethod y).before args s = true) (hsel : (Cond.selects C y y).before args s = true)
    (hcode : (Cond.codeWith y bytes maxL ret hh).before args s = true) (hy : y.cls ≠ "java/lang/invoke/MethodHandle" ∧ y.cls ≠ "java/lang/invoke/VarHandle")
    {W9 : Nat} {Pre : Pt → Array Value → Prop} {Post : Pt → Array Value → Option Value → Pt → Prop} {PostX : Pt → Array Value → Addr → Pt → Prop} (hK : vx_Back l R p e below s args y 3 W9 Pre Post PostX)
    {b : Addr} {cellB : Cell} (hcell : T.heap[b]? = some cellB) (hobj : cellB.vm.isStatics = false) (hcls : s.vm.findClass C = some cellB.cls)
    {g : JFrame} (hg : g.method = m) (hsize : g.locals.size = c.maxLocals) {argsL rest : List Value} (hlen : ∀ sig, parseMethodDescriptor y.desc = some sig → argsL.length = sig.parameters.length)
    (hstack : g.stack = argsL.reverse ++ .ref b :: rest) (hW : 2 * g.monitorRoom + (rest.map fun v => v.category).sum ≤ W9) (hdg : decode c.code g.pc = .ok (.invokevirtual index, 3))
    (hpre : ∀ vm₁, s.WarmedH vm₁ → Pre ⟨T.setVm vm₁, locs, cells, slots⟩ (Value.ref b :: argsL).toArray) :
    (∃ (v : Option Value) (vm₁ : Vm) (B : Pt), s.WarmedH vm₁ ∧ Stand p l e R s m args below meth c B.U B.locs B.cells B.slots ∧ Post ⟨T.setVm vm₁, locs, cells, slots⟩ (Value.ref b :: argsL).toArray v B ∧
      ∀ target, Steps p.tables e below (B.U.setTop { g with pc := g.pc + 3, stack := v.toList ++ rest }) target → Steps p.tables e below (T.setTop g) target) ∨
    (∃ (q : Addr) (vm₁ : Vm) (B : Pt), s.WarmedH vm₁ ∧ Stand p l e R s m args below meth c B.U B.locs B.cells B.slots ∧ PostX ⟨T.setVm vm₁, locs, cells, slots⟩ (Value.ref b :: argsL).toArray q B ∧
      Steps p.tables e below (T.setTop g) ((B.U.setTop { g with stack := rest }).pushFrame (.throwing q))) := by
  obtain ⟨mk, methM, hnamed, hmethM, hstM, habM⟩ := Cond.instanceMethod_spec hinst
  obtain ⟨m8, methM', cM, hn8, hmethM', -, -, -, -, -, -, hsigM⟩ := Cond.codeWith_spec hcode
  cases Option.some.inj (hn8.symm.trans hnamed)
  cases hmethM.symm.trans hmethM'
  obtain ⟨c2, r2, m2, q1, q2, q3, q4, kP, hkP, hkPi⟩ := Cond.selects_spec hsel
  cases hcls.symm.trans q1
  cases (State.methodFound?_of_named hnamed hy).symm.trans q2
  cases hnamed.symm.trans q3
  have hselP : selectMethod e.platform s.vm cellB.cls mk = .method mk := by rw [Launch.admits_selectMethod X.admits]; exact q4
  obtain ⟨vm₁, X₁, hstep₁⟩ := X.invokevirtual hexec hown hlink hnamed hmethM hstM hkP hkPi hy (a := b) (cell := cellB) hcell
    (fun z h => by rw [h] at hobj; cases hobj) hselP hmethM habM hkP hkPi (g := g) hg (argsL := argsL) (rest := rest) (hlen _ hsigM) hstack hdg
  rcases hK m meth c ⟨T.setVm vm₁, locs, cells, slots⟩ { g with stack := rest } (.invokevirtual index) mk (Value.ref b :: argsL).toArray X₁ hg hsize hdg hW (X₁.named hnamed) (hpre vm₁ X₁.warmed) with ⟨v, B, X', hpost, hsteps⟩ | ⟨q, B, X', hpost, hsteps⟩
  · exact Or.inl ⟨v, vm₁, B, X₁.warmed, X', hpost, fun target h => hstep₁ _ fun acts => by rw [doInvoke_state]; exact hsteps.trans h⟩
  · exact Or.inr ⟨q, vm₁, B, X₁.warmed, X', hpost, hstep₁ _ fun acts => by rw [doInvoke_state]; exact hsteps⟩
theorem vx_callSX (X : Stand p l e R s m args below meth c T locs cells slots) (hexec : p.tables.exec = Jvm.exec) {own : String} {index : Nat} {y : MethodName} {bytes : ByteArray} {maxL : Nat} {ret : Option FieldType} {hh : List (Nat × Nat × Nat × Nat)}
    (hown : s.vm.findClass own = some m.cls) (hlink : (Cond.methodLink own index y).before args s = true) (hstat : (Cond.static y).before args s = true) (hinit : (Cond.initialized y.cls).before args s = true)
    (hcode : (Cond.codeWith y bytes maxL ret hh).before args s = true) (hy : y.cls ≠ "java/lang/invoke/MethodHandle" ∧ y.cls ≠ "java/lang/invoke/VarHandle")
    {W9 : Nat} {Pre : Pt → Array Value → Prop} {Post : Pt → Array Value → Option Value → Pt → Prop} {PostX : Pt → Array Value → Addr → Pt → Prop} (hK : vx_Back l R p e below s args y 3 W9 Pre Post PostX)
    {g : JFrame} (hg : g.method = m) (hsize : g.locals.size = c.maxLocals) {argsL rest : List Value} (hlen : ∀ sig, parseMethodDescriptor y.desc = some sig → argsL.length = sig.parameters.length)
    (hstack : g.stack = argsL.reverse ++ rest) (hW : 2 * g.monitorRoom + (rest.map fun v => v.category).sum ≤ W9) (hdg : decode c.code g.pc = .ok (.invokestatic index, 3))
    (hpre : ∀ vm₁, s.WarmedH vm₁ → Pre ⟨T.setVm vm₁, locs, cells, slots⟩ argsL.toArray) :
    (∃ (v : Option Value) (vm₁ : Vm) (B : Pt), s.WarmedH vm₁ ∧ Stand p l e R s m args below meth c B.U B.locs B.cells B.slots ∧ Post ⟨T.setVm vm₁, locs, cells, slots⟩ argsL.toArray v B ∧
      ∀ target, Steps p.tables e below (B.U.setTop { g with pc := g.pc + 3, stack := v.toList ++ rest }) target → Steps p.tables e below (T.setTop g) target) ∨
    (∃ (q : Addr) (vm₁ : Vm) (B : Pt), s.WarmedH vm₁ ∧ Stand p l e R s m args below meth c B.U B.locs B.cells B.slots ∧ PostX ⟨T.setVm vm₁, locs, cells, slots⟩ argsL.toArray q B ∧
      Steps p.tables e below (T.setTop g) ((B.U.setTop { g with stack := rest }).pushFrame (.throwing q))) := by
  obtain ⟨mk, methM, cM, hnamed, hmethM, -, -, -, -, -, -, hsigM⟩ := Cond.codeWith_spec hcode
  have hstatic : methM.isStatic = true := Cond.static_spec hnamed hmethM hstat
  obtain ⟨kP, hkP, -⟩ := className_of_methodNamed hnamed
  have hinitP : kP.init = .initialized := Cond.initialized_spec (findClass_of_methodNamed hnamed) hkP hinit
  obtain ⟨vm₁, X₁, hstep₁⟩ := X.invokestatic hexec hown hlink hnamed hmethM hstatic hkP hinitP hy (g := g) hg (argsL := argsL) (rest := rest) (hlen _ hsigM) hstack hdg
  rcases hK m meth c ⟨T.setVm vm₁, locs, cells, slots⟩ { g with stack := rest } (.invokestatic index) mk argsL.toArray X₁ hg hsize hdg hW (X₁.named hnamed) (hpre vm₁ X₁.warmed) with ⟨v, B, X', hpost, hsteps⟩ | ⟨q, B, X', hpost, hsteps⟩
  · exact Or.inl ⟨v, vm₁, B, X₁.warmed, X', hpost, fun target h => hstep₁ _ fun acts => by rw [doInvoke_state]; exact hsteps.trans h⟩
  · exact Or.inr ⟨q, vm₁, B, X₁.warmed, X', hpost, hstep₁ _ fun acts => by rw [doInvoke_state]; exact hsteps⟩
theorem vx_callVW (X : Stand p l e R s m args below meth c T locs cells slots) (hexec : p.tables.exec = Jvm.exec) {own C : String} {index : Nat} {y : MethodName} {bytes : ByteArray} {maxL : Nat} {ret : Option FieldType} {hh : List (Nat × Nat × Nat × Nat)}
    (hown : s.vm.findClass own = some m.cls) (hlink : (Cond.methodLink own index y).before args s = true) (hinst : (Cond.instanceMethod y).before args s = true) (hsel : (Cond.selects C y y).before args s = true)
    (hcode : (Cond.codeWith y bytes maxL ret hh).before args s = true) (hy : y.cls ≠ "java/lang/invoke/MethodHandle" ∧ y.cls ≠ "java/lang/invoke/VarHandle")
    {W9 : Nat} {Pre : Pt → Array Value → Prop} {Post : Pt → Array Value → Option Value → Pt → Prop} (hK : Back l R p e below s args y 3 W9 Pre Post)
    {b : Addr} {cellB : Cell} (hcell : T.heap[b]? = some cellB) (hobj : cellB.vm.isStatics = false) (hcls : s.vm.findClass C = some cellB.cls)
    {g : JFrame} (hg : g.method = m) (hsize : g.locals.size = c.maxLocals) {argsL rest : List Value} (hlen : ∀ sig, parseMethodDescriptor y.desc = some sig → argsL.length = sig.parameters.length)
    (hstack : g.stack = argsL.reverse ++ .ref b :: rest) (hW : 2 * g.monitorRoom + (rest.map fun v => v.category).sum ≤ W9) (hdg : decode c.code g.pc = .ok (.invokevirtual index, 3))
    (hpre : ∀ vm₁, s.WarmedH vm₁ → Pre ⟨T.setVm vm₁, locs, cells, slots⟩ (Value.ref b :: argsL).toArray) :
    ∃ (v : Option Value) (vm₁ : Vm) (B : Pt), s.WarmedH vm₁ ∧ Stand p l e R s m args below meth c B.U B.locs B.cells B.slots ∧ Post ⟨T.setVm vm₁, locs, cells, slots⟩ (Value.ref b :: argsL).toArray v B ∧
      ∀ target, Steps p.tables e below (B.U.setTop { g with pc := g.pc + 3, stack := v.toList ++ rest }) target → Steps p.tables e below (T.setTop g) target := by
  obtain ⟨mk, methM, hnamed, hmethM, hstM, habM⟩ := Cond.instanceMethod_spec hinst
  obtain ⟨m8, methM', cM, hn8, hmethM', -, -, -, -, -, -, hsigM⟩ := Cond.codeWith_spec hcode
  cases Option.some.inj (hn8.symm.trans hnamed)
  cases hmethM.symm.trans hmethM'
  obtain ⟨c2, r2, m2, q1, q2, q3, q4, kP, hkP, hkPi⟩ := Cond.selects_spec hsel
  cases hcls.symm.trans q1
  cases (State.methodFound?_of_named hnamed hy).symm.trans q2
  cases hnamed.symm.trans q3
  have hselP : selectMethod e.platform s.vm cellB.cls mk = .method mk := by rw [Launch.admits_selectMethod X.admits]; exact q4
  obtain ⟨vm₁, X₁, hstep₁⟩ := X.invokevirtual hexec hown hlink hnamed hmethM hstM hkP hkPi hy (a := b) (cell := cellB) hcell
    (fun z h => by rw [h] at hobj; cases hobj) hselP hmethM habM hkP hkPi (g := g) hg (argsL := argsL) (rest := rest) (hlen _ hsigM) hstack hdg
  obtain ⟨v, B, X', hpost, hsteps⟩ := hK m meth c ⟨T.setVm vm₁, locs, cells, slots⟩ { g with stack := rest } (.invokevirtual index) mk (Value.ref b :: argsL).toArray X₁ hg hsize hdg hW (X₁.named hnamed) (hpre vm₁ X₁.warmed)
  exact ⟨v, vm₁, B, X₁.warmed, X', hpost, fun target h => hstep₁ _ fun acts => by rw [doInvoke_state]; exact hsteps.trans h⟩
abbrev vx_CVW (R : Room) (s : State) (args : Array Value) (own C : String) (index : Nat) (y : MethodName) (bytes : ByteArray) (maxL : Nat) (ret : Option FieldType) (hh : List (Nat × Nat × Nat × Nat)) (ws : List Cond) (rm : Room) (mc ms n : Nat) : Prop :=
  (rm.cells = mc ∧ rm.slots = ms ∧ rm.frames + 1 ≤ R.frames ∧ 8 + (maxL + 11) + rm.locals ≤ R.locals ∧ (∀ w ∈ ws, ∀ (a' : Array Value) (U : State), s.WarmedH U.vm → w.before a' U = true) ∧ Cond.codeWith y bytes maxL ret hh ∈ ws) ∧
  (Cond.codeWith y bytes maxL ret hh).before args s = true ∧ (Cond.initialized y.cls).before args s = true ∧ (y.cls ≠ "java/lang/invoke/MethodHandle" ∧ y.cls ≠ "java/lang/invoke/VarHandle") ∧
  (∀ sig, parseMethodDescriptor y.desc = some sig → n = sig.parameters.length) ∧ (Cond.methodLink own index y).before args s = true ∧ (Cond.instanceMethod y).before args s = true ∧ (Cond.selects C y y).before args s = true
theorem vx_cwVW {own C : String} {index maxL mc ms : Nat} {y : MethodName} {bytes : ByteArray} {ret : Option FieldType} {hh : List (Nat × Nat × Nat × Nat)} {Ts ws ws' : List Cond} {rm : Room} (n : Nat) (ht : ∀ w ∈ Ts, w.before args s = true) (hT : GoodIn Ts (wsV own index C y ws)) (hw : ws = Cond.codeWith y bytes maxL ret hh :: ws') (hrc : rm.cells = mc) (hrs : rm.slots = ms)
    (hd : y.cls = C ∧ y.cls ≠ "java/lang/invoke/MethodHandle" ∧ y.cls ≠ "java/lang/invoke/VarHandle" ∧ (parseMethodDescriptor y.desc).map (fun d => d.parameters.length) = some n) (hR : rm.frames + 1 ≤ R.frames ∧ 8 + (maxL + 11) + rm.locals ≤ R.locals) :
    vx_CVW R s args own C index y bytes maxL ret hh ws rm mc ms n := by
  obtain ⟨hC, hd⟩ := hd
  subst hC
  have ok : ∀ w ∈ wsV own index y.cls y ws, w.before args s = true := fun w h => ht w (hT w h).1
  have hG : GoodIn Ts ws := fun w h => hT w (by unfold wsV; exact List.mem_append_right _ h)
  have hc : Cond.codeWith y bytes maxL ret hh ∈ ws := by rw [hw]; exact List.mem_cons_self
  refine ⟨⟨hrc, hrs, hR.1, hR.2, pay_in ht hG, hc⟩, ht _ (hG _ hc).1, ok _ (by simp [wsV]), ⟨hd.1, hd.2.1⟩, fun sig h => ?_, ok _ (by simp [wsV]), ok _ (by simp [wsV]), ok _ (by simp [wsV])⟩
  have h2 := hd.2.2
  rw [h] at h2
  exact (Option.some.inj h2).symm
theorem vx_runVW {y : MethodName} {bytes cc : ByteArray} {maxL nL mc ms n index : Nat} {ret : Option FieldType} {hh : List (Nat × Nat × Nat × Nat)} {ws : List Cond} {rm : Room} {Pc : Array Value → State → Prop} {Qc : Array Value → State → Outcome → State → Prop} {free : Addr → Prop} {Ts : List Cond} {own C : String} {b : Addr} {As rest : List Value} {g : JFrame}
    (S : CallFix p m c cc nL s args Ts own) (hM : Met l y ws rm Pc Qc mc ms free) (cw : vx_CVW R s args own C index y bytes maxL ret hh ws rm mc ms n) (hp : PreV s H C b Pc As)
    (hg : g.method = m) (hn : As.length = n) (hsize : g.locals.size = nL) (hstack : g.stack = As.reverse ++ .ref b :: rest) (hW : 2 * g.monitorRoom + (rest.map fun v => v.category).sum ≤ 8) (hdg : decode cc g.pc = .ok (.invokevirtual index, 3)) (hf : cells + mc ≤ R.cells ∧ slots + ms ≤ R.slots) :
    va_Run p l e R s m args below meth c H locs cells slots mc ms g rest (Qc (Value.ref b :: As).toArray) free := by
  obtain ⟨⟨hrc, hrs, hfr, hlo, hws, hcw⟩, hcode, hini, hy, hlen, hl, hin, hse⟩ := cw
  have hK : Back l R p e below s args y 3 8 (PreOf R mc ms Pc) (PostOf Qc mc ms free) := va_backW (hh := hh) (bytes := bytes) (maxL := maxL) (ret := ret) hM hp.1 hrc hrs hfr hlo hws hcw (fun a' U hW => word_at hW (Or.inl (by first | rfl | simp [Cond.onTables, Cond.keeps, Cond.steady])) hini)
  obtain ⟨hx, hb, hml, ho, -⟩ := S
  obtain ⟨-, ⟨cellB, hcB, hoB, hclB⟩, hPc⟩ := hp
  intro T hT X
  obtain ⟨v, vm₁, ⟨U', l2, c2, s2⟩, hW₁, X', ⟨g', mk, t, L, e1, e2, hq, h1, hL, h2, h3⟩, st⟩ := vx_callVW X hx (C := C) (hh := hh) (bytes := bytes) (maxL := maxL) (ret := ret) ho hl hin hse hcode hy hK (by rw [hT]; exact hcB) hoB hclB hg (hsize.trans hml.symm) (argsL := As) (rest := rest) (fun sig h => hn.trans (hlen sig h)) hstack hW (by rw [hb]; exact hdg)
    (fun vm₁ hW₁ => ⟨hf.1, hf.2, hPc (T.setVm vm₁) hT hW₁⟩)
  dsimp only [Pt.U, Pt.locs, Pt.cells, Pt.slots] at X' e1 e2 h1 h2 h3 st
  subst h1; subst h2; subst h3
  exact ⟨v, (T.setVm vm₁).calling g' mk (Value.ref b :: As).toArray, t, U', L, hT, X', hL, e1, e2, hq, st⟩
section
variable {y : MethodName} {bytes cc : ByteArray} {maxL nL mc ms n index : Nat} {ret : Option FieldType} {ws : List Cond} {rm : Room} {Pc : Array Value → State → Prop} {Qc : Array Value → State → Outcome → State → Prop} {XC : String → State → State → Prop} {free : Addr → Prop} {Ts : List Cond} {own C : String} {b : Addr} {As rest : List Value} {g : JFrame}
theorem vx_runVX {hh : List (Nat × Nat × Nat × Nat)} (S : CallFix p m c cc nL s args Ts own) (hM : vx_Met l y ws rm Pc Qc XC mc ms free) (cw : vx_CVW R s args own C index y bytes maxL ret hh ws rm mc ms n) (hp : PreV s H C b Pc As)
    (hg : g.method = m) (hn : As.length = n) (hsize : g.locals.size = nL) (hstack : g.stack = As.reverse ++ .ref b :: rest) (hW : 2 * g.monitorRoom + (rest.map fun v => v.category).sum ≤ 8) (hdg : decode cc g.pc = .ok (.invokevirtual index, 3)) (hf : cells + mc ≤ R.cells ∧ slots + ms ≤ R.slots) :
    vx_Run p l e R s m args below meth c H locs cells slots mc ms g rest (Qc (Value.ref b :: As).toArray) XC free := by
  obtain ⟨⟨hrc, hrs, hfr, hlo, hws, hcw⟩, hcode, hini, hy, hlen, hl, hin, hse⟩ := cw
  have hK : vx_Back l R p e below s args y 3 8 (PreOf R mc ms Pc) (PostOf Qc mc ms free) (vx_Post XC mc ms free) := vx_backW (hh := hh) (bytes := bytes) (maxL := maxL) (ret := ret) hM hp.1 hrc hrs hfr hlo hws hcw (fun a' U hW => word_at hW (Or.inl (by first | rfl | simp [Cond.onTables, Cond.keeps, Cond.steady])) hini)
  obtain ⟨hx, hb, hml, ho, -⟩ := S
  obtain ⟨-, ⟨cellB, hcB, hoB, hclB⟩, hPc⟩ := hp
  intro T hT X
  rcases vx_callVX X hx (C := C) (hh := hh) (bytes := bytes) (maxL := maxL) (ret := ret) ho hl hin hse hcode hy hK (by rw [hT]; exact hcB) hoB hclB hg (hsize.trans hml.symm) (argsL := As) (rest := rest) (fun sig h => hn.trans (hlen sig h)) hstack hW (by rw [hb]; exact hdg)
    (fun vm₁ hW₁ => ⟨hf.1, hf.2, hPc (T.setVm vm₁) hT hW₁⟩) with ⟨v, vm₁, ⟨U', l2, c2, s2⟩, hW₁, X', ⟨g', mk, t, L, e1, e2, hq, h1, hL, h2, h3⟩, st⟩ | ⟨q, vm₁, ⟨U', l2, c2, s2⟩, hW₁, X', ⟨g', mk, t, L, E, ce, e1, e2, hq, hce, hcv, hcl, h1, hL, h2, h3⟩, st⟩
  · dsimp only [Pt.U, Pt.locs, Pt.cells, Pt.slots] at X' e1 e2 h1 h2 h3 st
    subst h1; subst h2; subst h3
    exact Or.inl ⟨v, (T.setVm vm₁).calling g' mk (Value.ref b :: As).toArray, t, U', L, hT, X', hL, e1, e2, hq, st⟩
  · dsimp only [Pt.U, Pt.locs, Pt.cells, Pt.slots] at X' e1 e2 h1 h2 h3 st hcl
    subst h1; subst h2; subst h3
    exact Or.inr ⟨q, (T.setVm vm₁).calling g' mk (Value.ref b :: As).toArray, t, U', L, E, ce, hT, X', hL, e1, e2, hq, hce, hcv, vx_cls hW₁ hcl, st⟩
theorem vx_runSX {hh : List (Nat × Nat × Nat × Nat)} (S : CallFix p m c cc nL s args Ts own) (hM : vx_Met l y ws rm Pc Qc XC mc ms free) (cw : vx_CSW R s args own index y bytes maxL ret hh ws rm mc ms n) (hp : PreS s H Pc As)
    (hg : g.method = m) (hn : As.length = n) (hsize : g.locals.size = nL) (hstack : g.stack = As.reverse ++ rest) (hW : 2 * g.monitorRoom + (rest.map fun v => v.category).sum ≤ 8) (hdg : decode cc g.pc = .ok (.invokestatic index, 3)) (hf : cells + mc ≤ R.cells ∧ slots + ms ≤ R.slots) :
    vx_Run p l e R s m args below meth c H locs cells slots mc ms g rest (Qc As.toArray) XC free := by
  obtain ⟨⟨hrc, hrs, hfr, hlo, hws, hcw⟩, hcode, hini, hy, hlen, hl, hstt⟩ := cw
  have hK : vx_Back l R p e below s args y 3 8 (PreOf R mc ms Pc) (PostOf Qc mc ms free) (vx_Post XC mc ms free) := vx_backW (hh := hh) (bytes := bytes) (maxL := maxL) (ret := ret) hM hp.1 hrc hrs hfr hlo hws hcw (fun a' U hW => word_at hW (Or.inl (by first | rfl | simp [Cond.onTables, Cond.keeps, Cond.steady])) hini)
  obtain ⟨hx, hb, hml, ho, -⟩ := S
  intro T hT X
  rcases vx_callSX X hx (hh := hh) (bytes := bytes) (maxL := maxL) (ret := ret) ho hl hstt hini hcode hy hK hg (hsize.trans hml.symm) (argsL := As) (rest := rest) (fun sig h => hn.trans (hlen sig h)) hstack hW (by rw [hb]; exact hdg)
    (fun vm₁ hW₁ => ⟨hf.1, hf.2, hp.2 (T.setVm vm₁) hT hW₁⟩) with ⟨v, vm₁, ⟨U', l2, c2, s2⟩, hW₁, X', ⟨g', mk, t, L, e1, e2, hq, h1, hL, h2, h3⟩, st⟩ | ⟨q, vm₁, ⟨U', l2, c2, s2⟩, hW₁, X', ⟨g', mk, t, L, E, ce, e1, e2, hq, hce, hcv, hcl, h1, hL, h2, h3⟩, st⟩
  · dsimp only [Pt.U, Pt.locs, Pt.cells, Pt.slots] at X' e1 e2 h1 h2 h3 st
    subst h1; subst h2; subst h3
    exact Or.inl ⟨v, (T.setVm vm₁).calling g' mk As.toArray, t, U', L, hT, X', hL, e1, e2, hq, st⟩
  · dsimp only [Pt.U, Pt.locs, Pt.cells, Pt.slots] at X' e1 e2 h1 h2 h3 st hcl
    subst h1; subst h2; subst h3
    exact Or.inr ⟨q, (T.setVm vm₁).calling g' mk As.toArray, t, U', L, E, ce, hT, X', hL, e1, e2, hq, hce, hcv, vx_cls hW₁ hcl, st⟩
end
end VXH
theorem vx_ofWH {l : Launch} {y : MethodName} {ws ws' : List Cond} {rm : Room} {Pc : Array Value → State → Prop} {Qc : Array Value → State → Outcome → State → Prop} {XC : String → State → State → Prop} {mc ms : Nat} {free : Addr → Prop} {cc : ByteArray} {maxL : Nat} {ret : Option FieldType} {hh : List (Nat × Nat × Nat × Nat)}
    (hy : plainName y.cls = true) (hw : ws = Cond.codeWith y cc maxL ret hh :: ws')
    (body : ∀ p e s m args below meth c s₁, BodyLoose p l y (headSpec ws rm) cc maxL ret e s m args below meth c s₁ → c.maxLocals = maxL → Pc args s →
      W p l e (headSpec ws rm).room s m args below meth c s.heap [] 0 0 (vx_MQ below Qc XC args s mc ms free) (entryFrame m args maxL)) : vx_Met l y ws rm Pc Qc XC mc ms free := by
  refine MetFree.of_bodyS (code := cc) (maxLocals := maxL) (ret := ret) hy ?_ ?_
  · intro args s m h hn
    obtain ⟨m9, meth, c, hn9, h1, h2, h3, h4, -, h5, h6, -⟩ := Cond.codeWith_spec (atoms_spec (ws := ws) h _ (by rw [hw]; exact List.mem_cons_self))
    cases hn.symm.trans hn9
    exact ⟨meth, c, h1, h2, h3, h4, h5, h6⟩
  · intro p e s m args below meth c s₁ B hml hP _
    have hh0 : s₁.heap = s.heap := by rw [B.state]; rfl
    obtain ⟨t, a1, o, b1, b2, b3⟩ := body p e s m args below meth c s₁ B hml hP s₁ hh0 (Stand.of_body B)
    exact ⟨t, o, a1, b1, b2, b3⟩
/-! ===== END ===== -/
end
section
/-! ===== BEGIN printed: names, fields, word lists, decode rows ===== -/
def RX0 : String := "CableOffice$Ground"
def TX0 : u_T := fun k => match k with
  | 0 => ("CableOffice$Ground", "left", "I", false)
  | 1 => ("CableOffice$Ground", "low", "I", false)
  | 2 => ("CableOffice$Ground", "right", "I", false)
  | 3 => ("CableOffice$Ground", "high", "I", false)
  | 4 => ("CableOffice$Ground", "from", "I", false)
  | 5 => ("CableOffice$Ground", "to", "I", false)
  | 6 => ("CableOffice$Ground", "catches", "I", false)
  | 7 => ("CableOffice$Ground", "catchSum", "I", false)
  | _ => ("CableOffice$Ground", "paidSum", "I", false)
def tyX0 : Nat → FieldType := fun k => match k with
  | 0 => .int
  | 1 => .int
  | 2 => .int
  | 3 => .int
  | 4 => .int
  | 5 => .int
  | 6 => .int
  | 7 => .int
  | _ => .int
abbrev wsX00 : List Cond := u_ws RX0 TX0 9
theorem nmX0 : ∀ a, a < 9 → ∀ b, b < 9 → a ≠ b → (TX0 a).2.1 ≠ (TX0 b).2.1 := by decide +kernel
theorem tyX0_ok : ∀ k, k < 9 → parseFieldDescriptor (TX0 k).2.2.1 = some (tyX0 k) := by decide +kernel
abbrev cX0_init : ByteArray := prog_2_method_1_code
def yX0_init : MethodName := ⟨RX0, "<init>", "()V"⟩
abbrev cX0_setBounds : ByteArray := prog_2_method_2_code
def yX0_setBounds : MethodName := ⟨RX0, "setBounds", "(IIII)V"⟩
abbrev cX0_setMonths : ByteArray := prog_2_method_3_code
def yX0_setMonths : MethodName := ⟨RX0, "setMonths", "(II)V"⟩
abbrev cX0_isShutIn : ByteArray := prog_2_method_4_code
def yX0_isShutIn : MethodName := ⟨RX0, "isShutIn", "(I)Z"⟩
abbrev cX0_price : ByteArray := prog_2_method_5_code
def yX0_price : MethodName := ⟨RX0, "price", "()I"⟩
def RX1 : String := "CableOffice$Route"
def TX1 : u_T := fun k => match k with
  | 0 => ("CableOffice$Route", "x", "[I", true)
  | 1 => ("CableOffice$Route", "y", "[I", true)
  | _ => ("CableOffice$Route", "points", "I", false)
def tyX1 : Nat → FieldType := fun k => match k with
  | 0 => .array .int
  | 1 => .array .int
  | _ => .int
abbrev wsX10 : List Cond := u_ws RX1 TX1 3
theorem nmX1 : ∀ a, a < 3 → ∀ b, b < 3 → a ≠ b → (TX1 a).2.1 ≠ (TX1 b).2.1 := by decide +kernel
theorem tyX1_ok : ∀ k, k < 3 → parseFieldDescriptor (TX1 k).2.2.1 = some (tyX1 k) := by decide +kernel
abbrev cX1_init : ByteArray := prog_3_method_1_code
def yX1_init : MethodName := ⟨RX1, "<init>", "()V"⟩
abbrev cX1_pieces : ByteArray := prog_3_method_2_code
def yX1_pieces : MethodName := ⟨RX1, "pieces", "()I"⟩
abbrev cX1_isAt : ByteArray := prog_3_method_3_code
def yX1_isAt : MethodName := ⟨RX1, "isAt", "(III)Z"⟩
abbrev cX1_add : ByteArray := prog_3_method_4_code
def yX1_add : MethodName := ⟨RX1, "add", "(II)V"⟩
abbrev cX1_takeAllOf : ByteArray := prog_3_method_5_code
def yX1_takeAllOf : MethodName := ⟨RX1, "takeAllOf", "(LCableOffice$Route;)V"⟩
abbrev cX1_width : ByteArray := prog_3_method_6_code
def yX1_width : MethodName := ⟨RX1, "width", "(I)I"⟩
abbrev cX1_height : ByteArray := prog_3_method_7_code
def yX1_height : MethodName := ⟨RX1, "height", "(I)I"⟩
abbrev cX1_sideOf : ByteArray := prog_3_method_8_code
def yX1_sideOf : MethodName := ⟨RX1, "sideOf", "(III)I"⟩
abbrev cX1_leftOf : ByteArray := prog_3_method_9_code
def yX1_leftOf : MethodName := ⟨RX1, "leftOf", "(I)I"⟩
abbrev cX1_rightOf : ByteArray := prog_3_method_10_code
def yX1_rightOf : MethodName := ⟨RX1, "rightOf", "(I)I"⟩
abbrev cX1_lowOf : ByteArray := prog_3_method_11_code
def yX1_lowOf : MethodName := ⟨RX1, "lowOf", "(I)I"⟩
abbrev cX1_highOf : ByteArray := prog_3_method_12_code
def yX1_highOf : MethodName := ⟨RX1, "highOf", "(I)I"⟩
abbrev cX1_pieceCrosses : ByteArray := prog_3_method_13_code
def yX1_pieceCrosses : MethodName := ⟨RX1, "pieceCrosses", "(ILCableOffice$Route;I)Z"⟩
abbrev cX1_boxMeets : ByteArray := prog_3_method_14_code
def yX1_boxMeets : MethodName := ⟨RX1, "boxMeets", "(IIIII)Z"⟩
abbrev cX1_lineDivides : ByteArray := prog_3_method_15_code
def yX1_lineDivides : MethodName := ⟨RX1, "lineDivides", "(ILCableOffice$Route;I)Z"⟩
abbrev cX1_pieceIsSteepTo : ByteArray := prog_3_method_16_code
def yX1_pieceIsSteepTo : MethodName := ⟨RX1, "pieceIsSteepTo", "(ILCableOffice$Route;I)Z"⟩
abbrev cX1_pieceMeets : ByteArray := prog_3_method_17_code
def yX1_pieceMeets : MethodName := ⟨RX1, "pieceMeets", "(ILCableOffice$Ground;)Z"⟩
abbrev cX1_lineMeets : ByteArray := prog_3_method_18_code
def yX1_lineMeets : MethodName := ⟨RX1, "lineMeets", "(ILCableOffice$Ground;)Z"⟩
def RX2 : String := "CableOffice"
def TX2 : u_T := fun k => match k with
  | 0 => ("CableOffice", "draftRoute", "LCableOffice$Route;", true)
  | 1 => ("CableOffice", "routes", "[LCableOffice$Route;", true)
  | 2 => ("CableOffice", "cableCount", "I", false)
  | 3 => ("CableOffice", "crossed", "[I", true)
  | 4 => ("CableOffice", "crossedSteeply", "[I", true)
  | 5 => ("CableOffice", "agreed", "[Z", true)
  | 6 => ("CableOffice", "grounds", "[LCableOffice$Ground;", true)
  | 7 => ("CableOffice", "groundCount", "I", false)
  | _ => ("CableOffice", "repairCount", "I", false)
def tyX2 : Nat → FieldType := fun k => match k with
  | 0 => .object "CableOffice$Route"
  | 1 => .array (.object "CableOffice$Route")
  | 2 => .int
  | 3 => .array .int
  | 4 => .array .int
  | 5 => .array .boolean
  | 6 => .array (.object "CableOffice$Ground")
  | 7 => .int
  | _ => .int
abbrev wsX20 : List Cond := u_ws RX2 TX2 9
theorem nmX2 : ∀ a, a < 9 → ∀ b, b < 9 → a ≠ b → (TX2 a).2.1 ≠ (TX2 b).2.1 := by decide +kernel
theorem tyX2_ok : ∀ k, k < 9 → parseFieldDescriptor (TX2 k).2.2.1 = some (tyX2 k) := by decide +kernel
abbrev cX2_init : ByteArray := prog_1_method_1_code
def yX2_init : MethodName := ⟨RX2, "<init>", "()V"⟩
abbrev cX2_draft : ByteArray := prog_1_method_2_code
def yX2_draft : MethodName := ⟨RX2, "draft", "(II)I"⟩
abbrev cX2_lay : ByteArray := prog_1_method_3_code
def yX2_lay : MethodName := ⟨RX2, "lay", "()I"⟩
abbrev cX2_move : ByteArray := prog_1_method_4_code
def yX2_move : MethodName := ⟨RX2, "move", "(IIII)I"⟩
abbrev cX2_cables : ByteArray := prog_1_method_5_code
def yX2_cables : MethodName := ⟨RX2, "cables", "()I"⟩
abbrev cX2_point : ByteArray := prog_1_method_6_code
def yX2_point : MethodName := ⟨RX2, "point", "(II)I"⟩
abbrev cX2_crossings : ByteArray := prog_1_method_7_code
def yX2_crossings : MethodName := ⟨RX2, "crossings", "(II)I"⟩
abbrev cX2_crossingsAnew : ByteArray := prog_1_method_8_code
def yX2_crossingsAnew : MethodName := ⟨RX2, "crossingsAnew", "(II)I"⟩
abbrev cX2_isWell : ByteArray := prog_1_method_9_code
def yX2_isWell : MethodName := ⟨RX2, "isWell", "(II)Z"⟩
abbrev cX2_agree : ByteArray := prog_1_method_10_code
def yX2_agree : MethodName := ⟨RX2, "agree", "(II)I"⟩
abbrev cX2_isAgreed : ByteArray := prog_1_method_11_code
def yX2_isAgreed : MethodName := ⟨RX2, "isAgreed", "(II)Z"⟩
abbrev cX2_bare : ByteArray := prog_1_method_12_code
def yX2_bare : MethodName := ⟨RX2, "bare", "()I"⟩
abbrev cX2_ground : ByteArray := prog_1_method_13_code
def yX2_ground : MethodName := ⟨RX2, "ground", "(IIIIII)I"⟩
abbrev cX2_tell : ByteArray := prog_1_method_14_code
def yX2_tell : MethodName := ⟨RX2, "tell", "(II)I"⟩
abbrev cX2_isClosed : ByteArray := prog_1_method_15_code
def yX2_isClosed : MethodName := ⟨RX2, "isClosed", "(II)Z"⟩
abbrev cX2_touches : ByteArray := prog_1_method_16_code
def yX2_touches : MethodName := ⟨RX2, "touches", "(III)Z"⟩
abbrev cX2_lifted : ByteArray := prog_1_method_17_code
def yX2_lifted : MethodName := ⟨RX2, "lifted", "(II)I"⟩
abbrev cX2_cost : ByteArray := prog_1_method_18_code
def yX2_cost : MethodName := ⟨RX2, "cost", "(III)I"⟩
abbrev cX2_repair : ByteArray := prog_1_method_19_code
def yX2_repair : MethodName := ⟨RX2, "repair", "(III)I"⟩
abbrev cX2_paid : ByteArray := prog_1_method_20_code
def yX2_paid : MethodName := ⟨RX2, "paid", "(I)I"⟩
abbrev cX2_demandPlace : ByteArray := prog_1_method_21_code
def yX2_demandPlace : MethodName := ⟨RX2, "demandPlace", "(II)V"⟩
abbrev cX2_demandMonth : ByteArray := prog_1_method_22_code
def yX2_demandMonth : MethodName := ⟨RX2, "demandMonth", "(I)V"⟩
abbrev cX2_demandCable : ByteArray := prog_1_method_23_code
def yX2_demandCable : MethodName := ⟨RX2, "demandCable", "(I)V"⟩
abbrev cX2_demandCables : ByteArray := prog_1_method_24_code
def yX2_demandCables : MethodName := ⟨RX2, "demandCables", "(II)V"⟩
abbrev cX2_demandPoint : ByteArray := prog_1_method_25_code
def yX2_demandPoint : MethodName := ⟨RX2, "demandPoint", "(II)V"⟩
abbrev cX2_demandPiece : ByteArray := prog_1_method_26_code
def yX2_demandPiece : MethodName := ⟨RX2, "demandPiece", "(II)V"⟩
abbrev cX2_demandGround : ByteArray := prog_1_method_27_code
def yX2_demandGround : MethodName := ⟨RX2, "demandGround", "(I)V"⟩
abbrev cX2_pairOf : ByteArray := prog_1_method_28_code
def yX2_pairOf : MethodName := ⟨RX2, "pairOf", "(II)I"⟩
abbrev cX2_recount : ByteArray := prog_1_method_29_code
def yX2_recount : MethodName := ⟨RX2, "recount", "(II)V"⟩
abbrev cX2_countCrossings : ByteArray := prog_1_method_30_code
def yX2_countCrossings : MethodName := ⟨RX2, "countCrossings", "(LCableOffice$Route;LCableOffice$Route;Z)I"⟩
abbrev cX2_crossWell : ByteArray := prog_1_method_31_code
def yX2_crossWell : MethodName := ⟨RX2, "crossWell", "(II)Z"⟩
abbrev cX2_dropIfNotWell : ByteArray := prog_1_method_32_code
def yX2_dropIfNotWell : MethodName := ⟨RX2, "dropIfNotWell", "(II)I"⟩
abbrev cX2_countBarePairs : ByteArray := prog_1_method_33_code
def yX2_countBarePairs : MethodName := ⟨RX2, "countBarePairs", "()I"⟩
abbrev cX2_bitOf : ByteArray := prog_1_method_34_code
def yX2_bitOf : MethodName := ⟨RX2, "bitOf", "(II)J"⟩
abbrev cX2_isIn : ByteArray := prog_1_method_35_code
def yX2_isIn : MethodName := ⟨RX2, "isIn", "(JII)Z"⟩
abbrev cX2_liftedWith : ByteArray := prog_1_method_36_code
def yX2_liftedWith : MethodName := ⟨RX2, "liftedWith", "(II)J"⟩
abbrev cX2_lyingOn : ByteArray := prog_1_method_37_code
def yX2_lyingOn : MethodName := ⟨RX2, "lyingOn", "(JII)J"⟩
abbrev cX2_liesOnLifted : ByteArray := prog_1_method_38_code
def yX2_liesOnLifted : MethodName := ⟨RX2, "liesOnLifted", "(JIII)Z"⟩
abbrev cX2_isPossible : ByteArray := prog_1_method_39_code
def yX2_isPossible : MethodName := ⟨RX2, "isPossible", "(J)Z"⟩
abbrev cX2_costOf : ByteArray := prog_1_method_40_code
def yX2_costOf : MethodName := ⟨RX2, "costOf", "(JI)I"⟩
abbrev cX2_payGrounds : ByteArray := prog_1_method_41_code
def yX2_payGrounds : MethodName := ⟨RX2, "payGrounds", "(JI)V"⟩
abbrev cX2_isOwed : ByteArray := prog_1_method_42_code
def yX2_isOwed : MethodName := ⟨RX2, "isOwed", "(JLCableOffice$Ground;I)Z"⟩
abbrev cX2_isMetByAny : ByteArray := prog_1_method_43_code
def yX2_isMetByAny : MethodName := ⟨RX2, "isMetByAny", "(JLCableOffice$Ground;)Z"⟩
def RX3 : String := "CableOfficeModel"
def TX3 : u_T := fun k => match k with
  | 0 => ("CableOfficeModel", "thrown", "I", false)
  | 1 => ("CableOfficeModel", "drafted", "I", false)
  | 2 => ("CableOfficeModel", "draftXs", "[I", true)
  | 3 => ("CableOfficeModel", "draftYs", "[I", true)
  | 4 => ("CableOfficeModel", "cables", "I", false)
  | 5 => ("CableOfficeModel", "counts", "[I", true)
  | 6 => ("CableOfficeModel", "xs", "[I", true)
  | 7 => ("CableOfficeModel", "ys", "[I", true)
  | 8 => ("CableOfficeModel", "areAgreed", "[Z", true)
  | 9 => ("CableOfficeModel", "grounds", "I", false)
  | 10 => ("CableOfficeModel", "lefts", "[I", true)
  | 11 => ("CableOfficeModel", "lows", "[I", true)
  | 12 => ("CableOfficeModel", "rights", "[I", true)
  | 13 => ("CableOfficeModel", "highs", "[I", true)
  | 14 => ("CableOfficeModel", "froms", "[I", true)
  | 15 => ("CableOfficeModel", "tos", "[I", true)
  | 16 => ("CableOfficeModel", "sums", "[I", true)
  | 17 => ("CableOfficeModel", "years", "[I", true)
  | 18 => ("CableOfficeModel", "paid", "[I", true)
  | 19 => ("CableOfficeModel", "repairs", "I", false)
  | 20 => ("CableOfficeModel", "areLifted", "[Z", true)
  | _ => ("CableOfficeModel", "row", "[I", true)
def tyX3 : Nat → FieldType := fun k => match k with
  | 0 => .int
  | 1 => .int
  | 2 => .array .int
  | 3 => .array .int
  | 4 => .int
  | 5 => .array .int
  | 6 => .array .int
  | 7 => .array .int
  | 8 => .array .boolean
  | 9 => .int
  | 10 => .array .int
  | 11 => .array .int
  | 12 => .array .int
  | 13 => .array .int
  | 14 => .array .int
  | 15 => .array .int
  | 16 => .array .int
  | 17 => .array .int
  | 18 => .array .int
  | 19 => .int
  | 20 => .array .boolean
  | _ => .array .int
abbrev wsX30 : List Cond := u_ws RX3 TX3 22
theorem nmX3 : ∀ a, a < 22 → ∀ b, b < 22 → a ≠ b → (TX3 a).2.1 ≠ (TX3 b).2.1 := by decide +kernel
theorem tyX3_ok : ∀ k, k < 22 → parseFieldDescriptor (TX3 k).2.2.1 = some (tyX3 k) := by decide +kernel
abbrev cX3_init : ByteArray := prog_5_method_1_code
def yX3_init : MethodName := ⟨RX3, "<init>", "()V"⟩
abbrev cX3_thrown : ByteArray := prog_5_method_2_code
def yX3_thrown : MethodName := ⟨RX3, "thrown", "()I"⟩
abbrev cX3_holds : ByteArray := prog_5_method_3_code
def yX3_holds : MethodName := ⟨RX3, "holds", "(I)Z"⟩
abbrev cX3_in : ByteArray := prog_5_method_4_code
def yX3_in : MethodName := ⟨RX3, "in", "(III)Z"⟩
abbrev cX3_isPlace : ByteArray := prog_5_method_5_code
def yX3_isPlace : MethodName := ⟨RX3, "isPlace", "(II)Z"⟩
abbrev cX3_isCable : ByteArray := prog_5_method_6_code
def yX3_isCable : MethodName := ⟨RX3, "isCable", "(I)Z"⟩
abbrev cX3_areCables : ByteArray := prog_5_method_7_code
def yX3_areCables : MethodName := ⟨RX3, "areCables", "(II)Z"⟩
abbrev cX3_isPoint : ByteArray := prog_5_method_8_code
def yX3_isPoint : MethodName := ⟨RX3, "isPoint", "(II)Z"⟩
abbrev cX3_isPiece : ByteArray := prog_5_method_9_code
def yX3_isPiece : MethodName := ⟨RX3, "isPiece", "(II)Z"⟩
abbrev cX3_draft : ByteArray := prog_5_method_10_code
def yX3_draft : MethodName := ⟨RX3, "draft", "(II)I"⟩
abbrev cX3_lay : ByteArray := prog_5_method_11_code
def yX3_lay : MethodName := ⟨RX3, "lay", "()I"⟩
abbrev cX3_side : ByteArray := prog_5_method_12_code
def yX3_side : MethodName := ⟨RX3, "side", "(IIIIII)I"⟩
abbrev cX3_isBetween : ByteArray := prog_5_method_13_code
def yX3_isBetween : MethodName := ⟨RX3, "isBetween", "(IIIIII)Z"⟩
abbrev cX3_meets : ByteArray := prog_5_method_14_code
def yX3_meets : MethodName := ⟨RX3, "meets", "(IIIII)Z"⟩
abbrev cX3_doCross : ByteArray := prog_5_method_15_code
def yX3_doCross : MethodName := ⟨RX3, "doCross", "(II)Z"⟩
abbrev cX3_isSteep : ByteArray := prog_5_method_16_code
def yX3_isSteep : MethodName := ⟨RX3, "isSteep", "(II)Z"⟩
abbrev cX3_crossed : ByteArray := prog_5_method_17_code
def yX3_crossed : MethodName := ⟨RX3, "crossed", "(II)I"⟩
abbrev cX3_isWellNow : ByteArray := prog_5_method_18_code
def yX3_isWellNow : MethodName := ⟨RX3, "isWellNow", "(II)Z"⟩
abbrev cX3_errorOfMove : ByteArray := prog_5_method_19_code
def yX3_errorOfMove : MethodName := ⟨RX3, "errorOfMove", "(IIII)I"⟩
abbrev cX3_agrees : ByteArray := prog_5_method_20_code
def yX3_agrees : MethodName := ⟨RX3, "agrees", "(IIZ)V"⟩
abbrev cX3_move : ByteArray := prog_5_method_21_code
def yX3_move : MethodName := ⟨RX3, "move", "(IIII)I"⟩
abbrev cX3_cables : ByteArray := prog_5_method_22_code
def yX3_cables : MethodName := ⟨RX3, "cables", "()I"⟩
abbrev cX3_point : ByteArray := prog_5_method_23_code
def yX3_point : MethodName := ⟨RX3, "point", "(II)I"⟩
abbrev cX3_crossings : ByteArray := prog_5_method_24_code
def yX3_crossings : MethodName := ⟨RX3, "crossings", "(II)I"⟩
abbrev cX3_crossingsAnew : ByteArray := prog_5_method_25_code
def yX3_crossingsAnew : MethodName := ⟨RX3, "crossingsAnew", "(II)I"⟩
abbrev cX3_isWell : ByteArray := prog_5_method_26_code
def yX3_isWell : MethodName := ⟨RX3, "isWell", "(II)Z"⟩
abbrev cX3_isBare : ByteArray := prog_5_method_27_code
def yX3_isBare : MethodName := ⟨RX3, "isBare", "(II)Z"⟩
abbrev cX3_bareNow : ByteArray := prog_5_method_28_code
def yX3_bareNow : MethodName := ⟨RX3, "bareNow", "()I"⟩
abbrev cX3_agree : ByteArray := prog_5_method_29_code
def yX3_agree : MethodName := ⟨RX3, "agree", "(II)I"⟩
abbrev cX3_isAgreed : ByteArray := prog_5_method_30_code
def yX3_isAgreed : MethodName := ⟨RX3, "isAgreed", "(II)Z"⟩
abbrev cX3_bare : ByteArray := prog_5_method_31_code
def yX3_bare : MethodName := ⟨RX3, "bare", "()I"⟩
abbrev cX3_isGround : ByteArray := prog_5_method_32_code
def yX3_isGround : MethodName := ⟨RX3, "isGround", "(I)Z"⟩
abbrev cX3_isMonth : ByteArray := prog_5_method_33_code
def yX3_isMonth : MethodName := ⟨RX3, "isMonth", "(I)Z"⟩
abbrev cX3_ground : ByteArray := prog_5_method_34_code
def yX3_ground : MethodName := ⟨RX3, "ground", "(IIIIII)I"⟩
abbrev cX3_price : ByteArray := prog_5_method_35_code
def yX3_price : MethodName := ⟨RX3, "price", "(I)I"⟩
abbrev cX3_tell : ByteArray := prog_5_method_36_code
def yX3_tell : MethodName := ⟨RX3, "tell", "(II)I"⟩
abbrev cX3_isClosedNow : ByteArray := prog_5_method_37_code
def yX3_isClosedNow : MethodName := ⟨RX3, "isClosedNow", "(II)Z"⟩
abbrev cX3_isClosed : ByteArray := prog_5_method_38_code
def yX3_isClosed : MethodName := ⟨RX3, "isClosed", "(II)Z"⟩
abbrev cX3_doTouch : ByteArray := prog_5_method_39_code
def yX3_doTouch : MethodName := ⟨RX3, "doTouch", "(II)Z"⟩
abbrev cX3_touches : ByteArray := prog_5_method_40_code
def yX3_touches : MethodName := ⟨RX3, "touches", "(III)Z"⟩
abbrev cX3_lifts : ByteArray := prog_5_method_41_code
def yX3_lifts : MethodName := ⟨RX3, "lifts", "(I)I"⟩
abbrev cX3_lifted : ByteArray := prog_5_method_42_code
def yX3_lifted : MethodName := ⟨RX3, "lifted", "(II)I"⟩
abbrev cX3_isPossible : ByteArray := prog_5_method_43_code
def yX3_isPossible : MethodName := ⟨RX3, "isPossible", "(I)Z"⟩
abbrev cX3_isTouched : ByteArray := prog_5_method_44_code
def yX3_isTouched : MethodName := ⟨RX3, "isTouched", "(III)Z"⟩
abbrev cX3_repaired : ByteArray := prog_5_method_45_code
def yX3_repaired : MethodName := ⟨RX3, "repaired", "(IIZ)I"⟩
abbrev cX3_cost : ByteArray := prog_5_method_46_code
def yX3_cost : MethodName := ⟨RX3, "cost", "(III)I"⟩
abbrev cX3_errorOfRepair : ByteArray := prog_5_method_47_code
def yX3_errorOfRepair : MethodName := ⟨RX3, "errorOfRepair", "(III)I"⟩
abbrev cX3_repair : ByteArray := prog_5_method_48_code
def yX3_repair : MethodName := ⟨RX3, "repair", "(III)I"⟩
abbrev cX3_paid : ByteArray := prog_5_method_49_code
def yX3_paid : MethodName := ⟨RX3, "paid", "(I)I"⟩
def RJ13 : String := "java/lang/Long"
def TJ13 : u_T := fun k => match k with
  | _ => ("", "", "", false)
def tyJ13 : Nat → FieldType := fun k => match k with
  | _ => .int
abbrev wsJ130 : List Cond := u_ws RJ13 TJ13 0
theorem nmJ13 : ∀ a, a < 0 → ∀ b, b < 0 → a ≠ b → (TJ13 a).2.1 ≠ (TJ13 b).2.1 := by decide +kernel
theorem tyJ13_ok : ∀ k, k < 0 → parseFieldDescriptor (TJ13 k).2.2.1 = some (tyJ13 k) := by decide +kernel
abbrev cJ13_bitCount_95d88 : ByteArray := prog_10_method_50_code
def yJ13_bitCount_95d88 : MethodName := ⟨RJ13, "bitCount", "(J)I"⟩
def RJ9 : String := "java/lang/Math"
def TJ9 : u_T := fun k => match k with
  | _ => ("", "", "", false)
def tyJ9 : Nat → FieldType := fun k => match k with
  | _ => .int
abbrev wsJ90 : List Cond := u_ws RJ9 TJ9 0
theorem nmJ9 : ∀ a, a < 0 → ∀ b, b < 0 → a ≠ b → (TJ9 a).2.1 ≠ (TJ9 b).2.1 := by decide +kernel
theorem tyJ9_ok : ∀ k, k < 0 → parseFieldDescriptor (TJ9 k).2.2.1 = some (tyJ9 k) := by decide +kernel
abbrev cJ9_abs_0f7a4 : ByteArray := prog_11_method_59_code
def yJ9_abs_0f7a4 : MethodName := ⟨RJ9, "abs", "(I)I"⟩
abbrev cJ9_max_7cf53 : ByteArray := prog_11_method_65_code
def yJ9_max_7cf53 : MethodName := ⟨RJ9, "max", "(II)I"⟩
abbrev cJ9_min_7cf53 : ByteArray := prog_11_method_69_code
def yJ9_min_7cf53 : MethodName := ⟨RJ9, "min", "(II)I"⟩
def RJ0 : String := "java/lang/String"
def TJ0 : u_T := fun k => match k with
  | _ => ("", "", "", false)
def tyJ0 : Nat → FieldType := fun k => match k with
  | _ => .int
abbrev wsJ00 : List Cond := u_ws RJ0 TJ0 0
theorem nmJ0 : ∀ a, a < 0 → ∀ b, b < 0 → a ≠ b → (TJ0 a).2.1 ≠ (TJ0 b).2.1 := by decide +kernel
theorem tyJ0_ok : ∀ k, k < 0 → parseFieldDescriptor (TJ0 k).2.2.1 = some (tyJ0 k) := by decide +kernel
def RJ10 : String := "java/lang/System"
def TJ10 : u_T := fun k => match k with
  | _ => ("", "", "", false)
def tyJ10 : Nat → FieldType := fun k => match k with
  | _ => .int
abbrev wsJ100 : List Cond := u_ws RJ10 TJ10 0
theorem nmJ10 : ∀ a, a < 0 → ∀ b, b < 0 → a ≠ b → (TJ10 a).2.1 ≠ (TJ10 b).2.1 := by decide +kernel
theorem tyJ10_ok : ∀ k, k < 0 → parseFieldDescriptor (TJ10 k).2.2.1 = some (tyJ10 k) := by decide +kernel
def RL : String := "CableOfficeLaw"
abbrev cL_draft : ByteArray := method_3_code
def yL_draft : MethodName := ⟨RL, "draft", "(LCableOffice;II[J)I"⟩
abbrev cL_lay : ByteArray := method_4_code
def yL_lay : MethodName := ⟨RL, "lay", "(LCableOffice;[J)I"⟩
abbrev cL_move : ByteArray := method_5_code
def yL_move : MethodName := ⟨RL, "move", "(LCableOffice;IIII[J)I"⟩
abbrev cL_point : ByteArray := method_6_code
def yL_point : MethodName := ⟨RL, "point", "(LCableOffice;II[J)I"⟩
abbrev cL_crossings : ByteArray := method_7_code
def yL_crossings : MethodName := ⟨RL, "crossings", "(LCableOffice;II[J)I"⟩
abbrev cL_crossingsAnew : ByteArray := method_8_code
def yL_crossingsAnew : MethodName := ⟨RL, "crossingsAnew", "(LCableOffice;II[J)I"⟩
abbrev cL_isWell : ByteArray := method_9_code
def yL_isWell : MethodName := ⟨RL, "isWell", "(LCableOffice;II[J)I"⟩
abbrev cL_agree : ByteArray := method_10_code
def yL_agree : MethodName := ⟨RL, "agree", "(LCableOffice;II[J)I"⟩
abbrev cL_isAgreed : ByteArray := method_11_code
def yL_isAgreed : MethodName := ⟨RL, "isAgreed", "(LCableOffice;II[J)I"⟩
abbrev cL_ground : ByteArray := method_12_code
def yL_ground : MethodName := ⟨RL, "ground", "(LCableOffice;IIIIII[J)I"⟩
abbrev cL_tell : ByteArray := method_13_code
def yL_tell : MethodName := ⟨RL, "tell", "(LCableOffice;II[J)I"⟩
abbrev cL_isClosed : ByteArray := method_14_code
def yL_isClosed : MethodName := ⟨RL, "isClosed", "(LCableOffice;II[J)I"⟩
abbrev cL_touches : ByteArray := method_15_code
def yL_touches : MethodName := ⟨RL, "touches", "(LCableOffice;III[J)I"⟩
abbrev cL_lifted : ByteArray := method_16_code
def yL_lifted : MethodName := ⟨RL, "lifted", "(LCableOffice;II[J)I"⟩
abbrev cL_cost : ByteArray := method_17_code
def yL_cost : MethodName := ⟨RL, "cost", "(LCableOffice;III[J)I"⟩
abbrev cL_repair : ByteArray := method_18_code
def yL_repair : MethodName := ⟨RL, "repair", "(LCableOffice;III[J)I"⟩
abbrev cL_paid : ByteArray := method_19_code
def yL_paid : MethodName := ⟨RL, "paid", "(LCableOffice;I[J)I"⟩
abbrev cL_law : ByteArray := code
def yL_law : MethodName := ⟨RL, "law", "([I)Z"⟩
def wsX0_init : List Cond := .code yX0_init cX0_init 1 none :: ([.methodLink RX0 1 objectInit, .instanceMethod objectInit, .code objectInit ⟨#[0xb1]⟩ 1 none, .fieldLink RX0 7 "CableOffice$Ground" "left" "I", .fieldLink RX0 13 "CableOffice$Ground" "low" "I", .fieldLink RX0 16 "CableOffice$Ground" "right" "I", .fieldLink RX0 19 "CableOffice$Ground" "high" "I", .fieldLink RX0 22 "CableOffice$Ground" "from" "I", .fieldLink RX0 25 "CableOffice$Ground" "to" "I", .fieldLink RX0 28 "CableOffice$Ground" "catches" "I", .fieldLink RX0 31 "CableOffice$Ground" "catchSum" "I", .fieldLink RX0 34 "CableOffice$Ground" "paidSum" "I"] ++ wsX00)
def wsX0_setBounds : List Cond := .code yX0_setBounds cX0_setBounds 5 none :: ([.fieldLink RX0 7 "CableOffice$Ground" "left" "I", .fieldLink RX0 13 "CableOffice$Ground" "low" "I", .fieldLink RX0 16 "CableOffice$Ground" "right" "I", .fieldLink RX0 19 "CableOffice$Ground" "high" "I"] ++ wsX00)
def wsX0_setMonths : List Cond := .code yX0_setMonths cX0_setMonths 3 none :: ([.fieldLink RX0 22 "CableOffice$Ground" "from" "I", .fieldLink RX0 25 "CableOffice$Ground" "to" "I"] ++ wsX00)
def wsX0_isShutIn : List Cond := .code yX0_isShutIn cX0_isShutIn 2 (some .boolean) :: ([.fieldLink RX0 22 "CableOffice$Ground" "from" "I", .fieldLink RX0 25 "CableOffice$Ground" "to" "I"] ++ wsX00)
def wsX0_price : List Cond := .code yX0_price cX0_price 1 (some .int) :: ([.fieldLink RX0 28 "CableOffice$Ground" "catches" "I", .fieldLink RX0 31 "CableOffice$Ground" "catchSum" "I"] ++ wsX00)
def wsX1_init : List Cond := .code yX1_init cX1_init 1 none :: ([.methodLink RX1 3 objectInit, .instanceMethod objectInit, .code objectInit ⟨#[0xb1]⟩ 1 none, .arrayClass .int, .fieldLink RX1 9 "CableOffice$Route" "x" "[I", .fieldLink RX1 15 "CableOffice$Route" "y" "[I", .fieldLink RX1 18 "CableOffice$Route" "points" "I"] ++ wsX10)
def wsX1_pieces : List Cond := .code yX1_pieces cX1_pieces 1 (some .int) :: ([.fieldLink RX1 18 "CableOffice$Route" "points" "I"] ++ wsX10)
def wsX1_isAt : List Cond := .code yX1_isAt cX1_isAt 4 (some .boolean) :: ([.fieldLink RX1 18 "CableOffice$Route" "points" "I", .fieldLink RX1 9 "CableOffice$Route" "x" "[I", .fieldLink RX1 15 "CableOffice$Route" "y" "[I"] ++ wsX10)
def wsX1_add : List Cond := .code yX1_add cX1_add 3 none :: ([.fieldLink RX1 9 "CableOffice$Route" "x" "[I", .fieldLink RX1 18 "CableOffice$Route" "points" "I", .fieldLink RX1 15 "CableOffice$Route" "y" "[I"] ++ wsX10)
def wsX1_takeAllOf : List Cond := .code yX1_takeAllOf cX1_takeAllOf 2 none :: ([.fieldLink RX1 9 "CableOffice$Route" "x" "[I", .methodLink RX1 22 arraycopyName, .native arraycopyName, .static arraycopyName, .initialized "java/lang/System", .fieldLink RX1 15 "CableOffice$Route" "y" "[I", .fieldLink RX1 18 "CableOffice$Route" "points" "I"] ++ wsX10)
def wsX1_width : List Cond := .code yX1_width cX1_width 2 (some .int) :: ([.fieldLink RX1 9 "CableOffice$Route" "x" "[I"] ++ wsX10)
def wsX1_height : List Cond := .code yX1_height cX1_height 2 (some .int) :: ([.fieldLink RX1 15 "CableOffice$Route" "y" "[I"] ++ wsX10)
def wsX1_sideOf : List Cond := .code yX1_sideOf cX1_sideOf 4 (some .int) :: ([.fieldLink RX1 15 "CableOffice$Route" "y" "[I", .fieldLink RX1 9 "CableOffice$Route" "x" "[I", .methodLink RX1 28 yX1_width, .instanceMethod yX1_width, .selects RX1 yX1_width yX1_width, .initialized RX1, .code yX1_width cX1_width 2 (some .int), .methodLink RX1 32 yX1_height, .instanceMethod yX1_height, .selects RX1 yX1_height yX1_height, .code yX1_height cX1_height 2 (some .int)] ++ wsX10)
def wsX1_leftOf : List Cond := .code yX1_leftOf cX1_leftOf 2 (some .int) :: ([.fieldLink RX1 9 "CableOffice$Route" "x" "[I", .methodLink RX1 35 Lib.Math.min.name, .static Lib.Math.min.name, .initialized "java/lang/Math", .code Lib.Math.min.name Lib.Math.min.code 2 (some .int)] ++ wsX10)
def wsX1_rightOf : List Cond := .code yX1_rightOf cX1_rightOf 2 (some .int) :: ([.fieldLink RX1 9 "CableOffice$Route" "x" "[I", .methodLink RX1 41 Lib.Math.max.name, .static Lib.Math.max.name, .initialized "java/lang/Math", .code Lib.Math.max.name Lib.Math.max.code 2 (some .int)] ++ wsX10)
def wsX1_lowOf : List Cond := .code yX1_lowOf cX1_lowOf 2 (some .int) :: ([.fieldLink RX1 15 "CableOffice$Route" "y" "[I", .methodLink RX1 35 Lib.Math.min.name, .static Lib.Math.min.name, .initialized "java/lang/Math", .code Lib.Math.min.name Lib.Math.min.code 2 (some .int)] ++ wsX10)
def wsX1_highOf : List Cond := .code yX1_highOf cX1_highOf 2 (some .int) :: ([.fieldLink RX1 15 "CableOffice$Route" "y" "[I", .methodLink RX1 41 Lib.Math.max.name, .static Lib.Math.max.name, .initialized "java/lang/Math", .code Lib.Math.max.name Lib.Math.max.code 2 (some .int)] ++ wsX10)
def wsX1_boxMeets_r1 : List Cond := [Cond.methodLink RX1 44 yX1_leftOf, Cond.instanceMethod yX1_leftOf, Cond.selects RX1 yX1_leftOf yX1_leftOf, Cond.initialized RX1, Cond.code yX1_leftOf cX1_leftOf 2 (some .int), Cond.fieldLink RX1 9 "CableOffice$Route" "x" "[I", Cond.methodLink RX1 35 Lib.Math.min.name, Cond.static Lib.Math.min.name, Cond.initialized "java/lang/Math", Cond.code Lib.Math.min.name Lib.Math.min.code 2 (some .int), Cond.methodLink RX1 50 yX1_rightOf, Cond.instanceMethod yX1_rightOf, Cond.selects RX1 yX1_rightOf yX1_rightOf, Cond.code yX1_rightOf cX1_rightOf 2 (some .int), Cond.methodLink RX1 41 Lib.Math.max.name, Cond.static Lib.Math.max.name, Cond.code Lib.Math.max.name Lib.Math.max.code 2 (some .int), Cond.methodLink RX1 47 yX1_lowOf, Cond.instanceMethod yX1_lowOf, Cond.selects RX1 yX1_lowOf yX1_lowOf, Cond.code yX1_lowOf cX1_lowOf 2 (some .int), Cond.fieldLink RX1 15 "CableOffice$Route" "y" "[I", Cond.methodLink RX1 53 yX1_highOf, Cond.instanceMethod yX1_highOf]
def wsX1_boxMeets_r2 : List Cond := [Cond.selects RX1 yX1_highOf yX1_highOf, Cond.code yX1_highOf cX1_highOf 2 (some .int)]
def wsX1_boxMeets : List Cond := .code yX1_boxMeets cX1_boxMeets 6 (some .boolean) :: ((wsX1_boxMeets_r1 ++ wsX1_boxMeets_r2) ++ wsX10)
def wsX1_lineDivides : List Cond := .code yX1_lineDivides cX1_lineDivides 6 (some .boolean) :: ([.fieldLink RX1 9 "CableOffice$Route" "x" "[I", .fieldLink RX1 15 "CableOffice$Route" "y" "[I", .methodLink RX1 35 Lib.Math.min.name, .static Lib.Math.min.name, .initialized "java/lang/Math", .code Lib.Math.min.name Lib.Math.min.code 2 (some .int), .methodLink RX1 41 Lib.Math.max.name, .static Lib.Math.max.name, .code Lib.Math.max.name Lib.Math.max.code 2 (some .int), .methodLink RX1 64 yX1_sideOf, .instanceMethod yX1_sideOf, .selects RX1 yX1_sideOf yX1_sideOf, .initialized RX1, .code yX1_sideOf cX1_sideOf 4 (some .int), .methodLink RX1 28 yX1_width, .instanceMethod yX1_width, .selects RX1 yX1_width yX1_width, .code yX1_width cX1_width 2 (some .int), .methodLink RX1 32 yX1_height, .instanceMethod yX1_height, .selects RX1 yX1_height yX1_height, .code yX1_height cX1_height 2 (some .int)] ++ wsX10)
def wsX1_pieceCrosses_r1 : List Cond := [Cond.methodLink RX1 44 yX1_leftOf, Cond.instanceMethod yX1_leftOf, Cond.selects RX1 yX1_leftOf yX1_leftOf, Cond.initialized RX1, Cond.code yX1_leftOf cX1_leftOf 2 (some .int), Cond.fieldLink RX1 9 "CableOffice$Route" "x" "[I", Cond.methodLink RX1 35 Lib.Math.min.name, Cond.static Lib.Math.min.name, Cond.initialized "java/lang/Math", Cond.code Lib.Math.min.name Lib.Math.min.code 2 (some .int), Cond.methodLink RX1 47 yX1_lowOf, Cond.instanceMethod yX1_lowOf, Cond.selects RX1 yX1_lowOf yX1_lowOf, Cond.code yX1_lowOf cX1_lowOf 2 (some .int), Cond.fieldLink RX1 15 "CableOffice$Route" "y" "[I", Cond.methodLink RX1 50 yX1_rightOf, Cond.instanceMethod yX1_rightOf, Cond.selects RX1 yX1_rightOf yX1_rightOf, Cond.code yX1_rightOf cX1_rightOf 2 (some .int), Cond.methodLink RX1 41 Lib.Math.max.name, Cond.static Lib.Math.max.name, Cond.code Lib.Math.max.name Lib.Math.max.code 2 (some .int), Cond.methodLink RX1 53 yX1_highOf, Cond.instanceMethod yX1_highOf]
def wsX1_pieceCrosses_r2 : List Cond := [Cond.selects RX1 yX1_highOf yX1_highOf, Cond.code yX1_highOf cX1_highOf 2 (some .int), Cond.methodLink RX1 56 yX1_boxMeets, Cond.instanceMethod yX1_boxMeets, Cond.selects RX1 yX1_boxMeets yX1_boxMeets, Cond.code yX1_boxMeets cX1_boxMeets 6 (some .boolean), Cond.methodLink RX1 60 yX1_lineDivides, Cond.instanceMethod yX1_lineDivides, Cond.selects RX1 yX1_lineDivides yX1_lineDivides, Cond.code yX1_lineDivides cX1_lineDivides 6 (some .boolean), Cond.methodLink RX1 64 yX1_sideOf, Cond.instanceMethod yX1_sideOf, Cond.selects RX1 yX1_sideOf yX1_sideOf, Cond.code yX1_sideOf cX1_sideOf 4 (some .int), Cond.methodLink RX1 28 yX1_width, Cond.instanceMethod yX1_width, Cond.selects RX1 yX1_width yX1_width, Cond.code yX1_width cX1_width 2 (some .int), Cond.methodLink RX1 32 yX1_height, Cond.instanceMethod yX1_height, Cond.selects RX1 yX1_height yX1_height, Cond.code yX1_height cX1_height 2 (some .int)]
def wsX1_pieceCrosses : List Cond := .code yX1_pieceCrosses cX1_pieceCrosses 4 (some .boolean) :: ((wsX1_pieceCrosses_r1 ++ wsX1_pieceCrosses_r2) ++ wsX10)
def wsX1_pieceIsSteepTo : List Cond := .code yX1_pieceIsSteepTo cX1_pieceIsSteepTo 8 (some .boolean) :: ([.methodLink RX1 68 Lib.Math.abs.name, .static Lib.Math.abs.name, .initialized "java/lang/Math", .code Lib.Math.abs.name Lib.Math.abs.code 1 (some .int), .methodLink RX1 28 yX1_width, .instanceMethod yX1_width, .selects RX1 yX1_width yX1_width, .initialized RX1, .code yX1_width cX1_width 2 (some .int), .fieldLink RX1 9 "CableOffice$Route" "x" "[I", .methodLink RX1 32 yX1_height, .instanceMethod yX1_height, .selects RX1 yX1_height yX1_height, .code yX1_height cX1_height 2 (some .int), .fieldLink RX1 15 "CableOffice$Route" "y" "[I"] ++ wsX10)
def wsX1_lineMeets : List Cond := .code yX1_lineMeets cX1_lineMeets 7 (some .boolean) :: ([.methodLink RX1 35 Lib.Math.min.name, .static Lib.Math.min.name, .initialized "java/lang/Math", .code Lib.Math.min.name Lib.Math.min.code 2 (some .int), .methodLink RX1 41 Lib.Math.max.name, .static Lib.Math.max.name, .code Lib.Math.max.name Lib.Math.max.code 2 (some .int), .methodLink RX1 64 yX1_sideOf, .instanceMethod yX1_sideOf, .selects RX1 yX1_sideOf yX1_sideOf, .initialized RX1, .code yX1_sideOf cX1_sideOf 4 (some .int), .fieldLink RX1 15 "CableOffice$Route" "y" "[I", .fieldLink RX1 9 "CableOffice$Route" "x" "[I", .methodLink RX1 28 yX1_width, .instanceMethod yX1_width, .selects RX1 yX1_width yX1_width, .code yX1_width cX1_width 2 (some .int), .methodLink RX1 32 yX1_height, .instanceMethod yX1_height, .selects RX1 yX1_height yX1_height, .code yX1_height cX1_height 2 (some .int)] ++ wsX00 ++ wsX10)
def wsX1_pieceMeets_r1 : List Cond := [Cond.methodLink RX1 56 yX1_boxMeets, Cond.instanceMethod yX1_boxMeets, Cond.selects RX1 yX1_boxMeets yX1_boxMeets, Cond.initialized RX1, Cond.code yX1_boxMeets cX1_boxMeets 6 (some .boolean), Cond.methodLink RX1 44 yX1_leftOf, Cond.instanceMethod yX1_leftOf, Cond.selects RX1 yX1_leftOf yX1_leftOf, Cond.code yX1_leftOf cX1_leftOf 2 (some .int), Cond.fieldLink RX1 9 "CableOffice$Route" "x" "[I", Cond.methodLink RX1 35 Lib.Math.min.name, Cond.static Lib.Math.min.name, Cond.initialized "java/lang/Math", Cond.code Lib.Math.min.name Lib.Math.min.code 2 (some .int), Cond.methodLink RX1 50 yX1_rightOf, Cond.instanceMethod yX1_rightOf, Cond.selects RX1 yX1_rightOf yX1_rightOf, Cond.code yX1_rightOf cX1_rightOf 2 (some .int), Cond.methodLink RX1 41 Lib.Math.max.name, Cond.static Lib.Math.max.name, Cond.code Lib.Math.max.name Lib.Math.max.code 2 (some .int), Cond.methodLink RX1 47 yX1_lowOf, Cond.instanceMethod yX1_lowOf, Cond.selects RX1 yX1_lowOf yX1_lowOf]
def wsX1_pieceMeets_r2 : List Cond := [Cond.code yX1_lowOf cX1_lowOf 2 (some .int), Cond.fieldLink RX1 15 "CableOffice$Route" "y" "[I", Cond.methodLink RX1 53 yX1_highOf, Cond.instanceMethod yX1_highOf, Cond.selects RX1 yX1_highOf yX1_highOf, Cond.code yX1_highOf cX1_highOf 2 (some .int), Cond.methodLink RX1 85 yX1_lineMeets, Cond.instanceMethod yX1_lineMeets, Cond.selects RX1 yX1_lineMeets yX1_lineMeets, Cond.code yX1_lineMeets cX1_lineMeets 7 (some .boolean), Cond.methodLink RX1 64 yX1_sideOf, Cond.instanceMethod yX1_sideOf, Cond.selects RX1 yX1_sideOf yX1_sideOf, Cond.code yX1_sideOf cX1_sideOf 4 (some .int), Cond.methodLink RX1 28 yX1_width, Cond.instanceMethod yX1_width, Cond.selects RX1 yX1_width yX1_width, Cond.code yX1_width cX1_width 2 (some .int), Cond.methodLink RX1 32 yX1_height, Cond.instanceMethod yX1_height, Cond.selects RX1 yX1_height yX1_height, Cond.code yX1_height cX1_height 2 (some .int)]
def wsX1_pieceMeets : List Cond := .code yX1_pieceMeets cX1_pieceMeets 3 (some .boolean) :: ((wsX1_pieceMeets_r1 ++ wsX1_pieceMeets_r2) ++ wsX00 ++ wsX10)
def wsX2_init_r1 : List Cond := [Cond.methodLink RX2 1 objectInit, Cond.instanceMethod objectInit, Cond.code objectInit ⟨#[0xb1]⟩ 1 none, Cond.classLink RX2 7 RX1, Cond.instantiable RX1 3, Cond.initialized RX1, Cond.fieldLink RX2 10 "CableOffice" "draftRoute" "LCableOffice$Route;", Cond.fieldLink RX2 16 "CableOffice" "routes" "[LCableOffice$Route;", Cond.fieldLink RX2 20 "CableOffice" "cableCount" "I", Cond.arrayClass .int, Cond.fieldLink RX2 24 "CableOffice" "crossed" "[I", Cond.fieldLink RX2 28 "CableOffice" "crossedSteeply" "[I", Cond.arrayClass .boolean, Cond.fieldLink RX2 31 "CableOffice" "agreed" "[Z", Cond.classLink RX2 35 RX0, Cond.fieldLink RX2 37 "CableOffice" "grounds" "[LCableOffice$Ground;", Cond.fieldLink RX2 41 "CableOffice" "groundCount" "I", Cond.fieldLink RX2 44 "CableOffice" "repairCount" "I", Cond.instantiable RX0 9, Cond.initialized RX0, Cond.instanceMethod yX1_init, Cond.code yX1_init cX1_init 1 none, Cond.methodLink RX1 3 objectInit, Cond.fieldLink RX1 9 "CableOffice$Route" "x" "[I"]
def wsX2_init_r2 : List Cond := [Cond.fieldLink RX1 15 "CableOffice$Route" "y" "[I", Cond.fieldLink RX1 18 "CableOffice$Route" "points" "I", Cond.instanceMethod yX0_init, Cond.code yX0_init cX0_init 1 none, Cond.methodLink RX0 1 objectInit, Cond.fieldLink RX0 7 "CableOffice$Ground" "left" "I", Cond.fieldLink RX0 13 "CableOffice$Ground" "low" "I", Cond.fieldLink RX0 16 "CableOffice$Ground" "right" "I", Cond.fieldLink RX0 19 "CableOffice$Ground" "high" "I", Cond.fieldLink RX0 22 "CableOffice$Ground" "from" "I", Cond.fieldLink RX0 25 "CableOffice$Ground" "to" "I", Cond.fieldLink RX0 28 "CableOffice$Ground" "catches" "I", Cond.fieldLink RX0 31 "CableOffice$Ground" "catchSum" "I", Cond.fieldLink RX0 34 "CableOffice$Ground" "paidSum" "I"]
def wsX2_init : List Cond := .code yX2_init cX2_init 2 none :: ((wsX2_init_r1 ++ wsX2_init_r2) ++ wsX10 ++ wsX20 ++ wsX00)
def wsX2_demandPlace : List Cond := .code yX2_demandPlace cX2_demandPlace 2 none :: ([.classLink RX2 113 "java/lang/IllegalArgumentException", .initialized "java/lang/IllegalArgumentException"] ++ (vx_atS RX2 117 "java/lang/IllegalArgumentException" ["java/lang/RuntimeException", "java/lang/Exception"]).filter goodWord)
def wsX2_draft : List Cond := .code yX2_draft cX2_draft 3 (some .int) :: ([.classLink RX2 59 "java/lang/IllegalStateException", .initialized "java/lang/IllegalStateException", .fieldLink RX2 10 "CableOffice" "draftRoute" "LCableOffice$Route;", .methodLink RX2 48 yX2_demandPlace, .static yX2_demandPlace, .initialized RX2, .code yX2_demandPlace cX2_demandPlace 2 none, .classLink RX2 113 "java/lang/IllegalArgumentException", .initialized "java/lang/IllegalArgumentException", .instanceMethod yX1_isAt, .initialized RX1, .selects RX1 yX1_isAt yX1_isAt, .code yX1_isAt cX1_isAt 4 (some .boolean), .fieldLink RX1 18 "CableOffice$Route" "points" "I", .fieldLink RX1 9 "CableOffice$Route" "x" "[I", .fieldLink RX1 15 "CableOffice$Route" "y" "[I", .instanceMethod yX1_add, .selects RX1 yX1_add yX1_add, .code yX1_add cX1_add 3 none] ++ wsX20 ++ wsX10 ++ (vx_atS RX2 63 "java/lang/IllegalStateException" ["java/lang/RuntimeException", "java/lang/Exception"]).filter goodWord ++ (vx_atS RX2 117 "java/lang/IllegalArgumentException" ["java/lang/RuntimeException", "java/lang/Exception"]).filter goodWord)
def wsX2_pairOf : List Cond := .code yX2_pairOf cX2_pairOf 2 (some .int) :: ([.methodLink RX2 207 Lib.Math.min.name, .static Lib.Math.min.name, .initialized "java/lang/Math", .code Lib.Math.min.name Lib.Math.min.code 2 (some .int), .methodLink RX2 212 Lib.Math.max.name, .static Lib.Math.max.name, .code Lib.Math.max.name Lib.Math.max.code 2 (some .int)])
def wsX2_countCrossings_r1 : List Cond := [Cond.instanceMethod yX1_pieces, Cond.initialized RX1, Cond.selects RX1 yX1_pieces yX1_pieces, Cond.code yX1_pieces cX1_pieces 1 (some .int), Cond.fieldLink RX1 18 "CableOffice$Route" "points" "I", Cond.instanceMethod yX1_pieceCrosses, Cond.selects RX1 yX1_pieceCrosses yX1_pieceCrosses, Cond.code yX1_pieceCrosses cX1_pieceCrosses 4 (some .boolean), Cond.methodLink RX1 44 yX1_leftOf, Cond.instanceMethod yX1_leftOf, Cond.selects RX1 yX1_leftOf yX1_leftOf, Cond.code yX1_leftOf cX1_leftOf 2 (some .int), Cond.fieldLink RX1 9 "CableOffice$Route" "x" "[I", Cond.methodLink RX1 35 Lib.Math.min.name, Cond.static Lib.Math.min.name, Cond.initialized "java/lang/Math", Cond.code Lib.Math.min.name Lib.Math.min.code 2 (some .int), Cond.methodLink RX1 47 yX1_lowOf, Cond.instanceMethod yX1_lowOf, Cond.selects RX1 yX1_lowOf yX1_lowOf, Cond.code yX1_lowOf cX1_lowOf 2 (some .int), Cond.fieldLink RX1 15 "CableOffice$Route" "y" "[I", Cond.methodLink RX1 50 yX1_rightOf, Cond.instanceMethod yX1_rightOf]
def wsX2_countCrossings_r2 : List Cond := [Cond.selects RX1 yX1_rightOf yX1_rightOf, Cond.code yX1_rightOf cX1_rightOf 2 (some .int), Cond.methodLink RX1 41 Lib.Math.max.name, Cond.static Lib.Math.max.name, Cond.code Lib.Math.max.name Lib.Math.max.code 2 (some .int), Cond.methodLink RX1 53 yX1_highOf, Cond.instanceMethod yX1_highOf, Cond.selects RX1 yX1_highOf yX1_highOf, Cond.code yX1_highOf cX1_highOf 2 (some .int), Cond.methodLink RX1 56 yX1_boxMeets, Cond.instanceMethod yX1_boxMeets, Cond.selects RX1 yX1_boxMeets yX1_boxMeets, Cond.code yX1_boxMeets cX1_boxMeets 6 (some .boolean), Cond.methodLink RX1 60 yX1_lineDivides, Cond.instanceMethod yX1_lineDivides, Cond.selects RX1 yX1_lineDivides yX1_lineDivides, Cond.code yX1_lineDivides cX1_lineDivides 6 (some .boolean), Cond.methodLink RX1 64 yX1_sideOf, Cond.instanceMethod yX1_sideOf, Cond.selects RX1 yX1_sideOf yX1_sideOf, Cond.code yX1_sideOf cX1_sideOf 4 (some .int), Cond.methodLink RX1 28 yX1_width, Cond.instanceMethod yX1_width, Cond.selects RX1 yX1_width yX1_width]
def wsX2_countCrossings_r3 : List Cond := [Cond.code yX1_width cX1_width 2 (some .int), Cond.methodLink RX1 32 yX1_height, Cond.instanceMethod yX1_height, Cond.selects RX1 yX1_height yX1_height, Cond.code yX1_height cX1_height 2 (some .int), Cond.instanceMethod yX1_pieceIsSteepTo, Cond.selects RX1 yX1_pieceIsSteepTo yX1_pieceIsSteepTo, Cond.code yX1_pieceIsSteepTo cX1_pieceIsSteepTo 8 (some .boolean), Cond.methodLink RX1 68 Lib.Math.abs.name, Cond.static Lib.Math.abs.name, Cond.code Lib.Math.abs.name Lib.Math.abs.code 1 (some .int)]
def wsX2_countCrossings : List Cond := .code yX2_countCrossings cX2_countCrossings 6 (some .int) :: ((wsX2_countCrossings_r1 ++ (wsX2_countCrossings_r2 ++ wsX2_countCrossings_r3)) ++ wsX10)
def wsX2_recount_r1 : List Cond := [Cond.fieldLink RX2 24 "CableOffice" "crossed" "[I", Cond.fieldLink RX2 16 "CableOffice" "routes" "[LCableOffice$Route;", Cond.fieldLink RX2 28 "CableOffice" "crossedSteeply" "[I", Cond.methodLink RX2 96 yX2_pairOf, Cond.static yX2_pairOf, Cond.initialized RX2, Cond.code yX2_pairOf cX2_pairOf 2 (some .int), Cond.methodLink RX2 207 Lib.Math.min.name, Cond.static Lib.Math.min.name, Cond.initialized "java/lang/Math", Cond.code Lib.Math.min.name Lib.Math.min.code 2 (some .int), Cond.methodLink RX2 212 Lib.Math.max.name, Cond.static Lib.Math.max.name, Cond.code Lib.Math.max.name Lib.Math.max.code 2 (some .int), Cond.methodLink RX2 99 yX2_countCrossings, Cond.static yX2_countCrossings, Cond.code yX2_countCrossings cX2_countCrossings 6 (some .int), Cond.instanceMethod yX1_pieces, Cond.initialized RX1, Cond.selects RX1 yX1_pieces yX1_pieces, Cond.code yX1_pieces cX1_pieces 1 (some .int), Cond.fieldLink RX1 18 "CableOffice$Route" "points" "I", Cond.instanceMethod yX1_pieceCrosses, Cond.selects RX1 yX1_pieceCrosses yX1_pieceCrosses]
def wsX2_recount_r2 : List Cond := [Cond.code yX1_pieceCrosses cX1_pieceCrosses 4 (some .boolean), Cond.methodLink RX1 44 yX1_leftOf, Cond.instanceMethod yX1_leftOf, Cond.selects RX1 yX1_leftOf yX1_leftOf, Cond.code yX1_leftOf cX1_leftOf 2 (some .int), Cond.fieldLink RX1 9 "CableOffice$Route" "x" "[I", Cond.methodLink RX1 35 Lib.Math.min.name, Cond.methodLink RX1 47 yX1_lowOf, Cond.instanceMethod yX1_lowOf, Cond.selects RX1 yX1_lowOf yX1_lowOf, Cond.code yX1_lowOf cX1_lowOf 2 (some .int), Cond.fieldLink RX1 15 "CableOffice$Route" "y" "[I", Cond.methodLink RX1 50 yX1_rightOf, Cond.instanceMethod yX1_rightOf, Cond.selects RX1 yX1_rightOf yX1_rightOf, Cond.code yX1_rightOf cX1_rightOf 2 (some .int), Cond.methodLink RX1 41 Lib.Math.max.name, Cond.methodLink RX1 53 yX1_highOf, Cond.instanceMethod yX1_highOf, Cond.selects RX1 yX1_highOf yX1_highOf, Cond.code yX1_highOf cX1_highOf 2 (some .int), Cond.methodLink RX1 56 yX1_boxMeets, Cond.instanceMethod yX1_boxMeets, Cond.selects RX1 yX1_boxMeets yX1_boxMeets]
def wsX2_recount_r3 : List Cond := [Cond.code yX1_boxMeets cX1_boxMeets 6 (some .boolean), Cond.methodLink RX1 60 yX1_lineDivides, Cond.instanceMethod yX1_lineDivides, Cond.selects RX1 yX1_lineDivides yX1_lineDivides, Cond.code yX1_lineDivides cX1_lineDivides 6 (some .boolean), Cond.methodLink RX1 64 yX1_sideOf, Cond.instanceMethod yX1_sideOf, Cond.selects RX1 yX1_sideOf yX1_sideOf, Cond.code yX1_sideOf cX1_sideOf 4 (some .int), Cond.methodLink RX1 28 yX1_width, Cond.instanceMethod yX1_width, Cond.selects RX1 yX1_width yX1_width, Cond.code yX1_width cX1_width 2 (some .int), Cond.methodLink RX1 32 yX1_height, Cond.instanceMethod yX1_height, Cond.selects RX1 yX1_height yX1_height, Cond.code yX1_height cX1_height 2 (some .int), Cond.instanceMethod yX1_pieceIsSteepTo, Cond.selects RX1 yX1_pieceIsSteepTo yX1_pieceIsSteepTo, Cond.code yX1_pieceIsSteepTo cX1_pieceIsSteepTo 8 (some .boolean), Cond.methodLink RX1 68 Lib.Math.abs.name, Cond.static Lib.Math.abs.name, Cond.code Lib.Math.abs.name Lib.Math.abs.code 1 (some .int)]
def wsX2_recount : List Cond := .code yX2_recount cX2_recount 4 none :: ((wsX2_recount_r1 ++ (wsX2_recount_r2 ++ wsX2_recount_r3)) ++ wsX20 ++ wsX10)
def wsX2_lay_r1 : List Cond := [Cond.classLink RX2 59 "java/lang/IllegalStateException", Cond.initialized "java/lang/IllegalStateException", Cond.fieldLink RX2 10 "CableOffice" "draftRoute" "LCableOffice$Route;", Cond.fieldLink RX2 20 "CableOffice" "cableCount" "I", Cond.fieldLink RX2 16 "CableOffice" "routes" "[LCableOffice$Route;", Cond.instanceMethod yX1_takeAllOf, Cond.initialized RX1, Cond.selects RX1 yX1_takeAllOf yX1_takeAllOf, Cond.code yX1_takeAllOf cX1_takeAllOf 2 none, Cond.fieldLink RX1 9 "CableOffice$Route" "x" "[I", Cond.methodLink RX1 22 arraycopyName, Cond.native arraycopyName, Cond.static arraycopyName, Cond.initialized "java/lang/System", Cond.fieldLink RX1 15 "CableOffice$Route" "y" "[I", Cond.fieldLink RX1 18 "CableOffice$Route" "points" "I", Cond.methodLink RX2 75 yX2_recount, Cond.instanceMethod yX2_recount, Cond.selects RX2 yX2_recount yX2_recount, Cond.initialized RX2, Cond.code yX2_recount cX2_recount 4 none, Cond.fieldLink RX2 24 "CableOffice" "crossed" "[I", Cond.fieldLink RX2 28 "CableOffice" "crossedSteeply" "[I", Cond.methodLink RX2 96 yX2_pairOf]
def wsX2_lay_r2 : List Cond := [Cond.static yX2_pairOf, Cond.code yX2_pairOf cX2_pairOf 2 (some .int), Cond.methodLink RX2 207 Lib.Math.min.name, Cond.static Lib.Math.min.name, Cond.initialized "java/lang/Math", Cond.code Lib.Math.min.name Lib.Math.min.code 2 (some .int), Cond.methodLink RX2 212 Lib.Math.max.name, Cond.static Lib.Math.max.name, Cond.code Lib.Math.max.name Lib.Math.max.code 2 (some .int), Cond.methodLink RX2 99 yX2_countCrossings, Cond.static yX2_countCrossings, Cond.code yX2_countCrossings cX2_countCrossings 6 (some .int), Cond.instanceMethod yX1_pieces, Cond.selects RX1 yX1_pieces yX1_pieces, Cond.code yX1_pieces cX1_pieces 1 (some .int), Cond.instanceMethod yX1_pieceCrosses, Cond.selects RX1 yX1_pieceCrosses yX1_pieceCrosses, Cond.code yX1_pieceCrosses cX1_pieceCrosses 4 (some .boolean), Cond.methodLink RX1 44 yX1_leftOf, Cond.instanceMethod yX1_leftOf, Cond.selects RX1 yX1_leftOf yX1_leftOf, Cond.code yX1_leftOf cX1_leftOf 2 (some .int), Cond.methodLink RX1 35 Lib.Math.min.name, Cond.methodLink RX1 47 yX1_lowOf]
def wsX2_lay_r3 : List Cond := [Cond.instanceMethod yX1_lowOf, Cond.selects RX1 yX1_lowOf yX1_lowOf, Cond.code yX1_lowOf cX1_lowOf 2 (some .int), Cond.methodLink RX1 50 yX1_rightOf, Cond.instanceMethod yX1_rightOf, Cond.selects RX1 yX1_rightOf yX1_rightOf, Cond.code yX1_rightOf cX1_rightOf 2 (some .int), Cond.methodLink RX1 41 Lib.Math.max.name, Cond.methodLink RX1 53 yX1_highOf, Cond.instanceMethod yX1_highOf, Cond.selects RX1 yX1_highOf yX1_highOf, Cond.code yX1_highOf cX1_highOf 2 (some .int), Cond.methodLink RX1 56 yX1_boxMeets, Cond.instanceMethod yX1_boxMeets, Cond.selects RX1 yX1_boxMeets yX1_boxMeets, Cond.code yX1_boxMeets cX1_boxMeets 6 (some .boolean), Cond.methodLink RX1 60 yX1_lineDivides, Cond.instanceMethod yX1_lineDivides, Cond.selects RX1 yX1_lineDivides yX1_lineDivides, Cond.code yX1_lineDivides cX1_lineDivides 6 (some .boolean), Cond.methodLink RX1 64 yX1_sideOf, Cond.instanceMethod yX1_sideOf, Cond.selects RX1 yX1_sideOf yX1_sideOf, Cond.code yX1_sideOf cX1_sideOf 4 (some .int)]
def wsX2_lay_r4 : List Cond := [Cond.methodLink RX1 28 yX1_width, Cond.instanceMethod yX1_width, Cond.selects RX1 yX1_width yX1_width, Cond.code yX1_width cX1_width 2 (some .int), Cond.methodLink RX1 32 yX1_height, Cond.instanceMethod yX1_height, Cond.selects RX1 yX1_height yX1_height, Cond.code yX1_height cX1_height 2 (some .int), Cond.instanceMethod yX1_pieceIsSteepTo, Cond.selects RX1 yX1_pieceIsSteepTo yX1_pieceIsSteepTo, Cond.code yX1_pieceIsSteepTo cX1_pieceIsSteepTo 8 (some .boolean), Cond.methodLink RX1 68 Lib.Math.abs.name, Cond.static Lib.Math.abs.name, Cond.code Lib.Math.abs.name Lib.Math.abs.code 1 (some .int)]
def wsX2_lay : List Cond := .code yX2_lay cX2_lay 3 (some .int) :: ((wsX2_lay_r1 ++ (wsX2_lay_r2 ++ (wsX2_lay_r3 ++ wsX2_lay_r4))) ++ wsX20 ++ wsX10 ++ (vx_atS RX2 63 "java/lang/IllegalStateException" ["java/lang/RuntimeException", "java/lang/Exception"]).filter goodWord)
def wsX2_demandCable : List Cond := .code yX2_demandCable cX2_demandCable 2 none :: ([.classLink RX2 190 "java/lang/IndexOutOfBoundsException", .initialized "java/lang/IndexOutOfBoundsException", .fieldLink RX2 20 "CableOffice" "cableCount" "I"] ++ wsX20 ++ (vx_atS RX2 194 "java/lang/IndexOutOfBoundsException" ["java/lang/RuntimeException", "java/lang/Exception"]).filter goodWord)
def wsX2_demandPoint : List Cond := .code yX2_demandPoint cX2_demandPoint 3 none :: ([.classLink RX2 190 "java/lang/IndexOutOfBoundsException", .initialized "java/lang/IndexOutOfBoundsException", .fieldLink RX2 16 "CableOffice" "routes" "[LCableOffice$Route;", .methodLink RX2 195 yX2_demandCable, .instanceMethod yX2_demandCable, .selects RX2 yX2_demandCable yX2_demandCable, .initialized RX2, .code yX2_demandCable cX2_demandCable 2 none, .fieldLink RX2 20 "CableOffice" "cableCount" "I"] ++ wsX20 ++ wsX10 ++ (vx_atS RX2 194 "java/lang/IndexOutOfBoundsException" ["java/lang/RuntimeException", "java/lang/Exception"]).filter goodWord)
def wsX2_crossWell : List Cond := .code yX2_crossWell cX2_crossWell 4 (some .boolean) :: ([.fieldLink RX2 24 "CableOffice" "crossed" "[I", .fieldLink RX2 28 "CableOffice" "crossedSteeply" "[I", .methodLink RX2 96 yX2_pairOf, .static yX2_pairOf, .initialized RX2, .code yX2_pairOf cX2_pairOf 2 (some .int), .methodLink RX2 207 Lib.Math.min.name, .static Lib.Math.min.name, .initialized "java/lang/Math", .code Lib.Math.min.name Lib.Math.min.code 2 (some .int), .methodLink RX2 212 Lib.Math.max.name, .static Lib.Math.max.name, .code Lib.Math.max.name Lib.Math.max.code 2 (some .int)] ++ wsX20)
def wsX2_dropIfNotWell : List Cond := .code yX2_dropIfNotWell cX2_dropIfNotWell 4 (some .int) :: ([.fieldLink RX2 31 "CableOffice" "agreed" "[Z", .methodLink RX2 96 yX2_pairOf, .static yX2_pairOf, .initialized RX2, .code yX2_pairOf cX2_pairOf 2 (some .int), .methodLink RX2 207 Lib.Math.min.name, .static Lib.Math.min.name, .initialized "java/lang/Math", .code Lib.Math.min.name Lib.Math.min.code 2 (some .int), .methodLink RX2 212 Lib.Math.max.name, .static Lib.Math.max.name, .code Lib.Math.max.name Lib.Math.max.code 2 (some .int), .methodLink RX2 103 yX2_crossWell, .instanceMethod yX2_crossWell, .selects RX2 yX2_crossWell yX2_crossWell, .code yX2_crossWell cX2_crossWell 4 (some .boolean), .fieldLink RX2 24 "CableOffice" "crossed" "[I", .fieldLink RX2 28 "CableOffice" "crossedSteeply" "[I"] ++ wsX20)
def wsX2_move_r1 : List Cond := [Cond.classLink RX2 59 "java/lang/IllegalStateException", Cond.initialized "java/lang/IllegalStateException", Cond.fieldLink RX2 16 "CableOffice" "routes" "[LCableOffice$Route;", Cond.fieldLink RX2 20 "CableOffice" "cableCount" "I", Cond.methodLink RX2 78 yX2_demandPoint, Cond.instanceMethod yX2_demandPoint, Cond.selects RX2 yX2_demandPoint yX2_demandPoint, Cond.initialized RX2, Cond.code yX2_demandPoint cX2_demandPoint 3 none, Cond.classLink RX2 190 "java/lang/IndexOutOfBoundsException", Cond.initialized "java/lang/IndexOutOfBoundsException", Cond.methodLink RX2 195 yX2_demandCable, Cond.instanceMethod yX2_demandCable, Cond.selects RX2 yX2_demandCable yX2_demandCable, Cond.code yX2_demandCable cX2_demandCable 2 none, Cond.methodLink RX2 48 yX2_demandPlace, Cond.static yX2_demandPlace, Cond.code yX2_demandPlace cX2_demandPlace 2 none, Cond.classLink RX2 113 "java/lang/IllegalArgumentException", Cond.initialized "java/lang/IllegalArgumentException", Cond.instanceMethod yX1_isAt, Cond.initialized RX1, Cond.selects RX1 yX1_isAt yX1_isAt, Cond.code yX1_isAt cX1_isAt 4 (some .boolean)]
def wsX2_move_r2 : List Cond := [Cond.fieldLink RX1 18 "CableOffice$Route" "points" "I", Cond.fieldLink RX1 9 "CableOffice$Route" "x" "[I", Cond.fieldLink RX1 15 "CableOffice$Route" "y" "[I", Cond.methodLink RX2 75 yX2_recount, Cond.instanceMethod yX2_recount, Cond.selects RX2 yX2_recount yX2_recount, Cond.code yX2_recount cX2_recount 4 none, Cond.fieldLink RX2 24 "CableOffice" "crossed" "[I", Cond.fieldLink RX2 28 "CableOffice" "crossedSteeply" "[I", Cond.methodLink RX2 96 yX2_pairOf, Cond.static yX2_pairOf, Cond.code yX2_pairOf cX2_pairOf 2 (some .int), Cond.methodLink RX2 207 Lib.Math.min.name, Cond.static Lib.Math.min.name, Cond.initialized "java/lang/Math", Cond.code Lib.Math.min.name Lib.Math.min.code 2 (some .int), Cond.methodLink RX2 212 Lib.Math.max.name, Cond.static Lib.Math.max.name, Cond.code Lib.Math.max.name Lib.Math.max.code 2 (some .int), Cond.methodLink RX2 99 yX2_countCrossings, Cond.static yX2_countCrossings, Cond.code yX2_countCrossings cX2_countCrossings 6 (some .int), Cond.instanceMethod yX1_pieces, Cond.selects RX1 yX1_pieces yX1_pieces]
def wsX2_move_r3 : List Cond := [Cond.code yX1_pieces cX1_pieces 1 (some .int), Cond.instanceMethod yX1_pieceCrosses, Cond.selects RX1 yX1_pieceCrosses yX1_pieceCrosses, Cond.code yX1_pieceCrosses cX1_pieceCrosses 4 (some .boolean), Cond.methodLink RX1 44 yX1_leftOf, Cond.instanceMethod yX1_leftOf, Cond.selects RX1 yX1_leftOf yX1_leftOf, Cond.code yX1_leftOf cX1_leftOf 2 (some .int), Cond.methodLink RX1 35 Lib.Math.min.name, Cond.methodLink RX1 47 yX1_lowOf, Cond.instanceMethod yX1_lowOf, Cond.selects RX1 yX1_lowOf yX1_lowOf, Cond.code yX1_lowOf cX1_lowOf 2 (some .int), Cond.methodLink RX1 50 yX1_rightOf, Cond.instanceMethod yX1_rightOf, Cond.selects RX1 yX1_rightOf yX1_rightOf, Cond.code yX1_rightOf cX1_rightOf 2 (some .int), Cond.methodLink RX1 41 Lib.Math.max.name, Cond.methodLink RX1 53 yX1_highOf, Cond.instanceMethod yX1_highOf, Cond.selects RX1 yX1_highOf yX1_highOf, Cond.code yX1_highOf cX1_highOf 2 (some .int), Cond.methodLink RX1 56 yX1_boxMeets, Cond.instanceMethod yX1_boxMeets]
def wsX2_move_r4 : List Cond := [Cond.selects RX1 yX1_boxMeets yX1_boxMeets, Cond.code yX1_boxMeets cX1_boxMeets 6 (some .boolean), Cond.methodLink RX1 60 yX1_lineDivides, Cond.instanceMethod yX1_lineDivides, Cond.selects RX1 yX1_lineDivides yX1_lineDivides, Cond.code yX1_lineDivides cX1_lineDivides 6 (some .boolean), Cond.methodLink RX1 64 yX1_sideOf, Cond.instanceMethod yX1_sideOf, Cond.selects RX1 yX1_sideOf yX1_sideOf, Cond.code yX1_sideOf cX1_sideOf 4 (some .int), Cond.methodLink RX1 28 yX1_width, Cond.instanceMethod yX1_width, Cond.selects RX1 yX1_width yX1_width, Cond.code yX1_width cX1_width 2 (some .int), Cond.methodLink RX1 32 yX1_height, Cond.instanceMethod yX1_height, Cond.selects RX1 yX1_height yX1_height, Cond.code yX1_height cX1_height 2 (some .int), Cond.instanceMethod yX1_pieceIsSteepTo, Cond.selects RX1 yX1_pieceIsSteepTo yX1_pieceIsSteepTo, Cond.code yX1_pieceIsSteepTo cX1_pieceIsSteepTo 8 (some .boolean), Cond.methodLink RX1 68 Lib.Math.abs.name, Cond.static Lib.Math.abs.name, Cond.code Lib.Math.abs.name Lib.Math.abs.code 1 (some .int)]
def wsX2_move_r5 : List Cond := [Cond.methodLink RX2 89 yX2_dropIfNotWell, Cond.instanceMethod yX2_dropIfNotWell, Cond.selects RX2 yX2_dropIfNotWell yX2_dropIfNotWell, Cond.code yX2_dropIfNotWell cX2_dropIfNotWell 4 (some .int), Cond.fieldLink RX2 31 "CableOffice" "agreed" "[Z", Cond.methodLink RX2 103 yX2_crossWell, Cond.instanceMethod yX2_crossWell, Cond.selects RX2 yX2_crossWell yX2_crossWell, Cond.code yX2_crossWell cX2_crossWell 4 (some .boolean)]
def wsX2_move : List Cond := .code yX2_move cX2_move 8 (some .int) :: ((wsX2_move_r1 ++ (wsX2_move_r2 ++ (wsX2_move_r3 ++ (wsX2_move_r4 ++ wsX2_move_r5)))) ++ wsX20 ++ wsX10 ++ (vx_atS RX2 63 "java/lang/IllegalStateException" ["java/lang/RuntimeException", "java/lang/Exception"]).filter goodWord ++ (vx_atS RX2 194 "java/lang/IndexOutOfBoundsException" ["java/lang/RuntimeException", "java/lang/Exception"]).filter goodWord ++ (vx_atS RX2 117 "java/lang/IllegalArgumentException" ["java/lang/RuntimeException", "java/lang/Exception"]).filter goodWord)
def wsX2_cables : List Cond := .code yX2_cables cX2_cables 1 (some .int) :: ([.fieldLink RX2 20 "CableOffice" "cableCount" "I"] ++ wsX20)
def wsX2_point : List Cond := .code yX2_point cX2_point 3 (some .int) :: ([.fieldLink RX2 16 "CableOffice" "routes" "[LCableOffice$Route;", .methodLink RX2 78 yX2_demandPoint, .instanceMethod yX2_demandPoint, .selects RX2 yX2_demandPoint yX2_demandPoint, .initialized RX2, .code yX2_demandPoint cX2_demandPoint 3 none, .classLink RX2 190 "java/lang/IndexOutOfBoundsException", .initialized "java/lang/IndexOutOfBoundsException", .methodLink RX2 195 yX2_demandCable, .instanceMethod yX2_demandCable, .selects RX2 yX2_demandCable yX2_demandCable, .code yX2_demandCable cX2_demandCable 2 none, .fieldLink RX2 20 "CableOffice" "cableCount" "I"] ++ wsX20 ++ wsX10 ++ (vx_atS RX2 194 "java/lang/IndexOutOfBoundsException" ["java/lang/RuntimeException", "java/lang/Exception"]).filter goodWord)
def wsX2_demandCables : List Cond := .code yX2_demandCables cX2_demandCables 3 none :: ([.methodLink RX2 195 yX2_demandCable, .instanceMethod yX2_demandCable, .selects RX2 yX2_demandCable yX2_demandCable, .initialized RX2, .code yX2_demandCable cX2_demandCable 2 none, .classLink RX2 190 "java/lang/IndexOutOfBoundsException", .initialized "java/lang/IndexOutOfBoundsException", .fieldLink RX2 20 "CableOffice" "cableCount" "I"] ++ wsX20 ++ (vx_atS RX2 194 "java/lang/IndexOutOfBoundsException" ["java/lang/RuntimeException", "java/lang/Exception"]).filter goodWord)
def wsX2_crossings : List Cond := .code yX2_crossings cX2_crossings 3 (some .int) :: ([.fieldLink RX2 24 "CableOffice" "crossed" "[I", .methodLink RX2 93 yX2_demandCables, .instanceMethod yX2_demandCables, .selects RX2 yX2_demandCables yX2_demandCables, .initialized RX2, .code yX2_demandCables cX2_demandCables 3 none, .methodLink RX2 195 yX2_demandCable, .instanceMethod yX2_demandCable, .selects RX2 yX2_demandCable yX2_demandCable, .code yX2_demandCable cX2_demandCable 2 none, .classLink RX2 190 "java/lang/IndexOutOfBoundsException", .initialized "java/lang/IndexOutOfBoundsException", .fieldLink RX2 20 "CableOffice" "cableCount" "I", .methodLink RX2 96 yX2_pairOf, .static yX2_pairOf, .code yX2_pairOf cX2_pairOf 2 (some .int), .methodLink RX2 207 Lib.Math.min.name, .static Lib.Math.min.name, .initialized "java/lang/Math", .code Lib.Math.min.name Lib.Math.min.code 2 (some .int), .methodLink RX2 212 Lib.Math.max.name, .static Lib.Math.max.name, .code Lib.Math.max.name Lib.Math.max.code 2 (some .int)] ++ wsX20 ++ (vx_atS RX2 194 "java/lang/IndexOutOfBoundsException" ["java/lang/RuntimeException", "java/lang/Exception"]).filter goodWord)
def wsX2_crossingsAnew_r1 : List Cond := [Cond.fieldLink RX2 16 "CableOffice" "routes" "[LCableOffice$Route;", Cond.methodLink RX2 93 yX2_demandCables, Cond.instanceMethod yX2_demandCables, Cond.selects RX2 yX2_demandCables yX2_demandCables, Cond.initialized RX2, Cond.code yX2_demandCables cX2_demandCables 3 none, Cond.methodLink RX2 195 yX2_demandCable, Cond.instanceMethod yX2_demandCable, Cond.selects RX2 yX2_demandCable yX2_demandCable, Cond.code yX2_demandCable cX2_demandCable 2 none, Cond.classLink RX2 190 "java/lang/IndexOutOfBoundsException", Cond.initialized "java/lang/IndexOutOfBoundsException", Cond.fieldLink RX2 20 "CableOffice" "cableCount" "I", Cond.methodLink RX2 99 yX2_countCrossings, Cond.static yX2_countCrossings, Cond.code yX2_countCrossings cX2_countCrossings 6 (some .int), Cond.instanceMethod yX1_pieces, Cond.initialized RX1, Cond.selects RX1 yX1_pieces yX1_pieces, Cond.code yX1_pieces cX1_pieces 1 (some .int), Cond.fieldLink RX1 18 "CableOffice$Route" "points" "I", Cond.instanceMethod yX1_pieceCrosses, Cond.selects RX1 yX1_pieceCrosses yX1_pieceCrosses, Cond.code yX1_pieceCrosses cX1_pieceCrosses 4 (some .boolean)]
def wsX2_crossingsAnew_r2 : List Cond := [Cond.methodLink RX1 44 yX1_leftOf, Cond.instanceMethod yX1_leftOf, Cond.selects RX1 yX1_leftOf yX1_leftOf, Cond.code yX1_leftOf cX1_leftOf 2 (some .int), Cond.fieldLink RX1 9 "CableOffice$Route" "x" "[I", Cond.methodLink RX1 35 Lib.Math.min.name, Cond.static Lib.Math.min.name, Cond.initialized "java/lang/Math", Cond.code Lib.Math.min.name Lib.Math.min.code 2 (some .int), Cond.methodLink RX1 47 yX1_lowOf, Cond.instanceMethod yX1_lowOf, Cond.selects RX1 yX1_lowOf yX1_lowOf, Cond.code yX1_lowOf cX1_lowOf 2 (some .int), Cond.fieldLink RX1 15 "CableOffice$Route" "y" "[I", Cond.methodLink RX1 50 yX1_rightOf, Cond.instanceMethod yX1_rightOf, Cond.selects RX1 yX1_rightOf yX1_rightOf, Cond.code yX1_rightOf cX1_rightOf 2 (some .int), Cond.methodLink RX1 41 Lib.Math.max.name, Cond.static Lib.Math.max.name, Cond.code Lib.Math.max.name Lib.Math.max.code 2 (some .int), Cond.methodLink RX1 53 yX1_highOf, Cond.instanceMethod yX1_highOf, Cond.selects RX1 yX1_highOf yX1_highOf]
def wsX2_crossingsAnew_r3 : List Cond := [Cond.code yX1_highOf cX1_highOf 2 (some .int), Cond.methodLink RX1 56 yX1_boxMeets, Cond.instanceMethod yX1_boxMeets, Cond.selects RX1 yX1_boxMeets yX1_boxMeets, Cond.code yX1_boxMeets cX1_boxMeets 6 (some .boolean), Cond.methodLink RX1 60 yX1_lineDivides, Cond.instanceMethod yX1_lineDivides, Cond.selects RX1 yX1_lineDivides yX1_lineDivides, Cond.code yX1_lineDivides cX1_lineDivides 6 (some .boolean), Cond.methodLink RX1 64 yX1_sideOf, Cond.instanceMethod yX1_sideOf, Cond.selects RX1 yX1_sideOf yX1_sideOf, Cond.code yX1_sideOf cX1_sideOf 4 (some .int), Cond.methodLink RX1 28 yX1_width, Cond.instanceMethod yX1_width, Cond.selects RX1 yX1_width yX1_width, Cond.code yX1_width cX1_width 2 (some .int), Cond.methodLink RX1 32 yX1_height, Cond.instanceMethod yX1_height, Cond.selects RX1 yX1_height yX1_height, Cond.code yX1_height cX1_height 2 (some .int), Cond.instanceMethod yX1_pieceIsSteepTo, Cond.selects RX1 yX1_pieceIsSteepTo yX1_pieceIsSteepTo, Cond.code yX1_pieceIsSteepTo cX1_pieceIsSteepTo 8 (some .boolean)]
def wsX2_crossingsAnew_r4 : List Cond := [Cond.methodLink RX1 68 Lib.Math.abs.name, Cond.static Lib.Math.abs.name, Cond.code Lib.Math.abs.name Lib.Math.abs.code 1 (some .int)]
def wsX2_crossingsAnew : List Cond := .code yX2_crossingsAnew cX2_crossingsAnew 3 (some .int) :: ((wsX2_crossingsAnew_r1 ++ (wsX2_crossingsAnew_r2 ++ (wsX2_crossingsAnew_r3 ++ wsX2_crossingsAnew_r4))) ++ wsX20 ++ wsX10 ++ (vx_atS RX2 194 "java/lang/IndexOutOfBoundsException" ["java/lang/RuntimeException", "java/lang/Exception"]).filter goodWord)
def wsX2_isWell_r1 : List Cond := [Cond.methodLink RX2 93 yX2_demandCables, Cond.instanceMethod yX2_demandCables, Cond.selects RX2 yX2_demandCables yX2_demandCables, Cond.initialized RX2, Cond.code yX2_demandCables cX2_demandCables 3 none, Cond.methodLink RX2 195 yX2_demandCable, Cond.instanceMethod yX2_demandCable, Cond.selects RX2 yX2_demandCable yX2_demandCable, Cond.code yX2_demandCable cX2_demandCable 2 none, Cond.classLink RX2 190 "java/lang/IndexOutOfBoundsException", Cond.initialized "java/lang/IndexOutOfBoundsException", Cond.fieldLink RX2 20 "CableOffice" "cableCount" "I", Cond.methodLink RX2 103 yX2_crossWell, Cond.instanceMethod yX2_crossWell, Cond.selects RX2 yX2_crossWell yX2_crossWell, Cond.code yX2_crossWell cX2_crossWell 4 (some .boolean), Cond.fieldLink RX2 24 "CableOffice" "crossed" "[I", Cond.fieldLink RX2 28 "CableOffice" "crossedSteeply" "[I", Cond.methodLink RX2 96 yX2_pairOf, Cond.static yX2_pairOf, Cond.code yX2_pairOf cX2_pairOf 2 (some .int), Cond.methodLink RX2 207 Lib.Math.min.name, Cond.static Lib.Math.min.name, Cond.initialized "java/lang/Math"]
def wsX2_isWell_r2 : List Cond := [Cond.code Lib.Math.min.name Lib.Math.min.code 2 (some .int), Cond.methodLink RX2 212 Lib.Math.max.name, Cond.static Lib.Math.max.name, Cond.code Lib.Math.max.name Lib.Math.max.code 2 (some .int)]
def wsX2_isWell : List Cond := .code yX2_isWell cX2_isWell 3 (some .boolean) :: ((wsX2_isWell_r1 ++ wsX2_isWell_r2) ++ wsX20 ++ (vx_atS RX2 194 "java/lang/IndexOutOfBoundsException" ["java/lang/RuntimeException", "java/lang/Exception"]).filter goodWord)
def wsX2_countBarePairs : List Cond := .code yX2_countBarePairs cX2_countBarePairs 5 (some .int) :: ([.fieldLink RX2 20 "CableOffice" "cableCount" "I", .fieldLink RX2 24 "CableOffice" "crossed" "[I", .fieldLink RX2 31 "CableOffice" "agreed" "[Z", .methodLink RX2 96 yX2_pairOf, .static yX2_pairOf, .initialized RX2, .code yX2_pairOf cX2_pairOf 2 (some .int), .methodLink RX2 207 Lib.Math.min.name, .static Lib.Math.min.name, .initialized "java/lang/Math", .code Lib.Math.min.name Lib.Math.min.code 2 (some .int), .methodLink RX2 212 Lib.Math.max.name, .static Lib.Math.max.name, .code Lib.Math.max.name Lib.Math.max.code 2 (some .int)] ++ wsX20)
def wsX2_agree_r1 : List Cond := [Cond.classLink RX2 59 "java/lang/IllegalStateException", Cond.initialized "java/lang/IllegalStateException", Cond.fieldLink RX2 31 "CableOffice" "agreed" "[Z", Cond.methodLink RX2 93 yX2_demandCables, Cond.instanceMethod yX2_demandCables, Cond.selects RX2 yX2_demandCables yX2_demandCables, Cond.initialized RX2, Cond.code yX2_demandCables cX2_demandCables 3 none, Cond.methodLink RX2 195 yX2_demandCable, Cond.instanceMethod yX2_demandCable, Cond.selects RX2 yX2_demandCable yX2_demandCable, Cond.code yX2_demandCable cX2_demandCable 2 none, Cond.classLink RX2 190 "java/lang/IndexOutOfBoundsException", Cond.initialized "java/lang/IndexOutOfBoundsException", Cond.fieldLink RX2 20 "CableOffice" "cableCount" "I", Cond.methodLink RX2 96 yX2_pairOf, Cond.static yX2_pairOf, Cond.code yX2_pairOf cX2_pairOf 2 (some .int), Cond.methodLink RX2 207 Lib.Math.min.name, Cond.static Lib.Math.min.name, Cond.initialized "java/lang/Math", Cond.code Lib.Math.min.name Lib.Math.min.code 2 (some .int), Cond.methodLink RX2 212 Lib.Math.max.name, Cond.static Lib.Math.max.name]
def wsX2_agree_r2 : List Cond := [Cond.code Lib.Math.max.name Lib.Math.max.code 2 (some .int), Cond.methodLink RX2 103 yX2_crossWell, Cond.instanceMethod yX2_crossWell, Cond.selects RX2 yX2_crossWell yX2_crossWell, Cond.code yX2_crossWell cX2_crossWell 4 (some .boolean), Cond.fieldLink RX2 24 "CableOffice" "crossed" "[I", Cond.fieldLink RX2 28 "CableOffice" "crossedSteeply" "[I", Cond.methodLink RX2 109 yX2_countBarePairs, Cond.instanceMethod yX2_countBarePairs, Cond.selects RX2 yX2_countBarePairs yX2_countBarePairs, Cond.code yX2_countBarePairs cX2_countBarePairs 5 (some .int)]
def wsX2_agree : List Cond := .code yX2_agree cX2_agree 4 (some .int) :: ((wsX2_agree_r1 ++ wsX2_agree_r2) ++ wsX20 ++ (vx_atS RX2 63 "java/lang/IllegalStateException" ["java/lang/RuntimeException", "java/lang/Exception"]).filter goodWord ++ (vx_atS RX2 194 "java/lang/IndexOutOfBoundsException" ["java/lang/RuntimeException", "java/lang/Exception"]).filter goodWord)
def wsX2_isAgreed : List Cond := .code yX2_isAgreed cX2_isAgreed 3 (some .boolean) :: ([.fieldLink RX2 31 "CableOffice" "agreed" "[Z", .methodLink RX2 93 yX2_demandCables, .instanceMethod yX2_demandCables, .selects RX2 yX2_demandCables yX2_demandCables, .initialized RX2, .code yX2_demandCables cX2_demandCables 3 none, .methodLink RX2 195 yX2_demandCable, .instanceMethod yX2_demandCable, .selects RX2 yX2_demandCable yX2_demandCable, .code yX2_demandCable cX2_demandCable 2 none, .classLink RX2 190 "java/lang/IndexOutOfBoundsException", .initialized "java/lang/IndexOutOfBoundsException", .fieldLink RX2 20 "CableOffice" "cableCount" "I", .methodLink RX2 96 yX2_pairOf, .static yX2_pairOf, .code yX2_pairOf cX2_pairOf 2 (some .int), .methodLink RX2 207 Lib.Math.min.name, .static Lib.Math.min.name, .initialized "java/lang/Math", .code Lib.Math.min.name Lib.Math.min.code 2 (some .int), .methodLink RX2 212 Lib.Math.max.name, .static Lib.Math.max.name, .code Lib.Math.max.name Lib.Math.max.code 2 (some .int)] ++ wsX20 ++ (vx_atS RX2 194 "java/lang/IndexOutOfBoundsException" ["java/lang/RuntimeException", "java/lang/Exception"]).filter goodWord)
def wsX2_bare : List Cond := .code yX2_bare cX2_bare 1 (some .int) :: ([.methodLink RX2 109 yX2_countBarePairs, .instanceMethod yX2_countBarePairs, .selects RX2 yX2_countBarePairs yX2_countBarePairs, .initialized RX2, .code yX2_countBarePairs cX2_countBarePairs 5 (some .int), .fieldLink RX2 20 "CableOffice" "cableCount" "I", .fieldLink RX2 24 "CableOffice" "crossed" "[I", .fieldLink RX2 31 "CableOffice" "agreed" "[Z", .methodLink RX2 96 yX2_pairOf, .static yX2_pairOf, .code yX2_pairOf cX2_pairOf 2 (some .int), .methodLink RX2 207 Lib.Math.min.name, .static Lib.Math.min.name, .initialized "java/lang/Math", .code Lib.Math.min.name Lib.Math.min.code 2 (some .int), .methodLink RX2 212 Lib.Math.max.name, .static Lib.Math.max.name, .code Lib.Math.max.name Lib.Math.max.code 2 (some .int)] ++ wsX20)
def wsX2_demandMonth : List Cond := .code yX2_demandMonth cX2_demandMonth 1 none :: ([.classLink RX2 113 "java/lang/IllegalArgumentException", .initialized "java/lang/IllegalArgumentException"] ++ (vx_atS RX2 117 "java/lang/IllegalArgumentException" ["java/lang/RuntimeException", "java/lang/Exception"]).filter goodWord)
def wsX2_ground_r1 : List Cond := [Cond.classLink RX2 113 "java/lang/IllegalArgumentException", Cond.initialized "java/lang/IllegalArgumentException", Cond.classLink RX2 59 "java/lang/IllegalStateException", Cond.initialized "java/lang/IllegalStateException", Cond.fieldLink RX2 41 "CableOffice" "groundCount" "I", Cond.fieldLink RX2 37 "CableOffice" "grounds" "[LCableOffice$Ground;", Cond.methodLink RX2 48 yX2_demandPlace, Cond.static yX2_demandPlace, Cond.initialized RX2, Cond.code yX2_demandPlace cX2_demandPlace 2 none, Cond.methodLink RX2 118 yX2_demandMonth, Cond.static yX2_demandMonth, Cond.code yX2_demandMonth cX2_demandMonth 1 none, Cond.instanceMethod yX0_setBounds, Cond.initialized RX0, Cond.selects RX0 yX0_setBounds yX0_setBounds, Cond.code yX0_setBounds cX0_setBounds 5 none, Cond.fieldLink RX0 7 "CableOffice$Ground" "left" "I", Cond.fieldLink RX0 13 "CableOffice$Ground" "low" "I", Cond.fieldLink RX0 16 "CableOffice$Ground" "right" "I", Cond.fieldLink RX0 19 "CableOffice$Ground" "high" "I", Cond.instanceMethod yX0_setMonths, Cond.selects RX0 yX0_setMonths yX0_setMonths, Cond.code yX0_setMonths cX0_setMonths 3 none]
def wsX2_ground_r2 : List Cond := [Cond.fieldLink RX0 22 "CableOffice$Ground" "from" "I", Cond.fieldLink RX0 25 "CableOffice$Ground" "to" "I"]
def wsX2_ground : List Cond := .code yX2_ground cX2_ground 8 (some .int) :: ((wsX2_ground_r1 ++ wsX2_ground_r2) ++ wsX20 ++ wsX00 ++ (vx_atS RX2 117 "java/lang/IllegalArgumentException" ["java/lang/RuntimeException", "java/lang/Exception"]).filter goodWord ++ (vx_atS RX2 63 "java/lang/IllegalStateException" ["java/lang/RuntimeException", "java/lang/Exception"]).filter goodWord)
def wsX2_demandGround : List Cond := .code yX2_demandGround cX2_demandGround 2 none :: ([.classLink RX2 190 "java/lang/IndexOutOfBoundsException", .initialized "java/lang/IndexOutOfBoundsException", .fieldLink RX2 41 "CableOffice" "groundCount" "I"] ++ wsX20 ++ (vx_atS RX2 194 "java/lang/IndexOutOfBoundsException" ["java/lang/RuntimeException", "java/lang/Exception"]).filter goodWord)
def wsX2_tell : List Cond := .code yX2_tell cX2_tell 4 (some .int) :: ([.classLink RX2 113 "java/lang/IllegalArgumentException", .initialized "java/lang/IllegalArgumentException", .classLink RX2 59 "java/lang/IllegalStateException", .initialized "java/lang/IllegalStateException", .constant RX2 134 (1000000), .fieldLink RX2 37 "CableOffice" "grounds" "[LCableOffice$Ground;", .methodLink RX2 131 yX2_demandGround, .instanceMethod yX2_demandGround, .selects RX2 yX2_demandGround yX2_demandGround, .initialized RX2, .code yX2_demandGround cX2_demandGround 2 none, .classLink RX2 190 "java/lang/IndexOutOfBoundsException", .initialized "java/lang/IndexOutOfBoundsException", .fieldLink RX2 41 "CableOffice" "groundCount" "I", .instanceMethod yX0_price, .initialized RX0, .selects RX0 yX0_price yX0_price, .code yX0_price cX0_price 1 (some .int), .fieldLink RX0 28 "CableOffice$Ground" "catches" "I", .fieldLink RX0 31 "CableOffice$Ground" "catchSum" "I"] ++ wsX20 ++ wsX00 ++ (vx_atS RX2 117 "java/lang/IllegalArgumentException" ["java/lang/RuntimeException", "java/lang/Exception"]).filter goodWord ++ (vx_atS RX2 63 "java/lang/IllegalStateException" ["java/lang/RuntimeException", "java/lang/Exception"]).filter goodWord ++ (vx_atS RX2 194 "java/lang/IndexOutOfBoundsException" ["java/lang/RuntimeException", "java/lang/Exception"]).filter goodWord)
def wsX2_isClosed : List Cond := .code yX2_isClosed cX2_isClosed 3 (some .boolean) :: ([.fieldLink RX2 37 "CableOffice" "grounds" "[LCableOffice$Ground;", .methodLink RX2 131 yX2_demandGround, .instanceMethod yX2_demandGround, .selects RX2 yX2_demandGround yX2_demandGround, .initialized RX2, .code yX2_demandGround cX2_demandGround 2 none, .classLink RX2 190 "java/lang/IndexOutOfBoundsException", .initialized "java/lang/IndexOutOfBoundsException", .fieldLink RX2 41 "CableOffice" "groundCount" "I", .methodLink RX2 118 yX2_demandMonth, .static yX2_demandMonth, .code yX2_demandMonth cX2_demandMonth 1 none, .classLink RX2 113 "java/lang/IllegalArgumentException", .initialized "java/lang/IllegalArgumentException", .instanceMethod yX0_isShutIn, .initialized RX0, .selects RX0 yX0_isShutIn yX0_isShutIn, .code yX0_isShutIn cX0_isShutIn 2 (some .boolean), .fieldLink RX0 22 "CableOffice$Ground" "from" "I", .fieldLink RX0 25 "CableOffice$Ground" "to" "I"] ++ wsX20 ++ wsX00 ++ (vx_atS RX2 194 "java/lang/IndexOutOfBoundsException" ["java/lang/RuntimeException", "java/lang/Exception"]).filter goodWord ++ (vx_atS RX2 117 "java/lang/IllegalArgumentException" ["java/lang/RuntimeException", "java/lang/Exception"]).filter goodWord)
def wsX2_demandPiece : List Cond := .code yX2_demandPiece cX2_demandPiece 3 none :: ([.classLink RX2 190 "java/lang/IndexOutOfBoundsException", .initialized "java/lang/IndexOutOfBoundsException", .fieldLink RX2 16 "CableOffice" "routes" "[LCableOffice$Route;", .methodLink RX2 195 yX2_demandCable, .instanceMethod yX2_demandCable, .selects RX2 yX2_demandCable yX2_demandCable, .initialized RX2, .code yX2_demandCable cX2_demandCable 2 none, .fieldLink RX2 20 "CableOffice" "cableCount" "I", .instanceMethod yX1_pieces, .initialized RX1, .selects RX1 yX1_pieces yX1_pieces, .code yX1_pieces cX1_pieces 1 (some .int), .fieldLink RX1 18 "CableOffice$Route" "points" "I"] ++ wsX20 ++ wsX10 ++ (vx_atS RX2 194 "java/lang/IndexOutOfBoundsException" ["java/lang/RuntimeException", "java/lang/Exception"]).filter goodWord)
def wsX2_touches_r1 : List Cond := [Cond.fieldLink RX2 16 "CableOffice" "routes" "[LCableOffice$Route;", Cond.fieldLink RX2 37 "CableOffice" "grounds" "[LCableOffice$Ground;", Cond.methodLink RX2 152 yX2_demandPiece, Cond.instanceMethod yX2_demandPiece, Cond.selects RX2 yX2_demandPiece yX2_demandPiece, Cond.initialized RX2, Cond.code yX2_demandPiece cX2_demandPiece 3 none, Cond.classLink RX2 190 "java/lang/IndexOutOfBoundsException", Cond.initialized "java/lang/IndexOutOfBoundsException", Cond.methodLink RX2 195 yX2_demandCable, Cond.instanceMethod yX2_demandCable, Cond.selects RX2 yX2_demandCable yX2_demandCable, Cond.code yX2_demandCable cX2_demandCable 2 none, Cond.fieldLink RX2 20 "CableOffice" "cableCount" "I", Cond.instanceMethod yX1_pieces, Cond.initialized RX1, Cond.selects RX1 yX1_pieces yX1_pieces, Cond.code yX1_pieces cX1_pieces 1 (some .int), Cond.fieldLink RX1 18 "CableOffice$Route" "points" "I", Cond.methodLink RX2 131 yX2_demandGround, Cond.instanceMethod yX2_demandGround, Cond.selects RX2 yX2_demandGround yX2_demandGround, Cond.code yX2_demandGround cX2_demandGround 2 none, Cond.fieldLink RX2 41 "CableOffice" "groundCount" "I"]
def wsX2_touches_r2 : List Cond := [Cond.instanceMethod yX1_pieceMeets, Cond.selects RX1 yX1_pieceMeets yX1_pieceMeets, Cond.code yX1_pieceMeets cX1_pieceMeets 3 (some .boolean), Cond.methodLink RX1 56 yX1_boxMeets, Cond.instanceMethod yX1_boxMeets, Cond.selects RX1 yX1_boxMeets yX1_boxMeets, Cond.code yX1_boxMeets cX1_boxMeets 6 (some .boolean), Cond.methodLink RX1 44 yX1_leftOf, Cond.instanceMethod yX1_leftOf, Cond.selects RX1 yX1_leftOf yX1_leftOf, Cond.code yX1_leftOf cX1_leftOf 2 (some .int), Cond.fieldLink RX1 9 "CableOffice$Route" "x" "[I", Cond.methodLink RX1 35 Lib.Math.min.name, Cond.static Lib.Math.min.name, Cond.initialized "java/lang/Math", Cond.code Lib.Math.min.name Lib.Math.min.code 2 (some .int), Cond.methodLink RX1 50 yX1_rightOf, Cond.instanceMethod yX1_rightOf, Cond.selects RX1 yX1_rightOf yX1_rightOf, Cond.code yX1_rightOf cX1_rightOf 2 (some .int), Cond.methodLink RX1 41 Lib.Math.max.name, Cond.static Lib.Math.max.name, Cond.code Lib.Math.max.name Lib.Math.max.code 2 (some .int), Cond.methodLink RX1 47 yX1_lowOf]
def wsX2_touches_r3 : List Cond := [Cond.instanceMethod yX1_lowOf, Cond.selects RX1 yX1_lowOf yX1_lowOf, Cond.code yX1_lowOf cX1_lowOf 2 (some .int), Cond.fieldLink RX1 15 "CableOffice$Route" "y" "[I", Cond.methodLink RX1 53 yX1_highOf, Cond.instanceMethod yX1_highOf, Cond.selects RX1 yX1_highOf yX1_highOf, Cond.code yX1_highOf cX1_highOf 2 (some .int), Cond.methodLink RX1 85 yX1_lineMeets, Cond.instanceMethod yX1_lineMeets, Cond.selects RX1 yX1_lineMeets yX1_lineMeets, Cond.code yX1_lineMeets cX1_lineMeets 7 (some .boolean), Cond.methodLink RX1 64 yX1_sideOf, Cond.instanceMethod yX1_sideOf, Cond.selects RX1 yX1_sideOf yX1_sideOf, Cond.code yX1_sideOf cX1_sideOf 4 (some .int), Cond.methodLink RX1 28 yX1_width, Cond.instanceMethod yX1_width, Cond.selects RX1 yX1_width yX1_width, Cond.code yX1_width cX1_width 2 (some .int), Cond.methodLink RX1 32 yX1_height, Cond.instanceMethod yX1_height, Cond.selects RX1 yX1_height yX1_height, Cond.code yX1_height cX1_height 2 (some .int)]
def wsX2_touches : List Cond := .code yX2_touches cX2_touches 4 (some .boolean) :: ((wsX2_touches_r1 ++ (wsX2_touches_r2 ++ wsX2_touches_r3)) ++ wsX20 ++ wsX10 ++ wsX00 ++ (vx_atS RX2 194 "java/lang/IndexOutOfBoundsException" ["java/lang/RuntimeException", "java/lang/Exception"]).filter goodWord)
def wsX2_bitOf : List Cond := .code yX2_bitOf cX2_bitOf 2 (some .long) :: ([])
def wsX2_isIn : List Cond := .code yX2_isIn cX2_isIn 4 (some .boolean) :: ([.methodLink RX2 222 yX2_bitOf, .static yX2_bitOf, .initialized RX2, .code yX2_bitOf cX2_bitOf 2 (some .long)])
def wsX2_liesOnLifted_r1 : List Cond := [Cond.fieldLink RX2 16 "CableOffice" "routes" "[LCableOffice$Route;", Cond.instanceMethod yX1_pieces, Cond.initialized RX1, Cond.selects RX1 yX1_pieces yX1_pieces, Cond.code yX1_pieces cX1_pieces 1 (some .int), Cond.fieldLink RX1 18 "CableOffice$Route" "points" "I", Cond.methodLink RX2 233 yX2_isIn, Cond.static yX2_isIn, Cond.initialized RX2, Cond.code yX2_isIn cX2_isIn 4 (some .boolean), Cond.methodLink RX2 222 yX2_bitOf, Cond.static yX2_bitOf, Cond.code yX2_bitOf cX2_bitOf 2 (some .long), Cond.instanceMethod yX1_pieceCrosses, Cond.selects RX1 yX1_pieceCrosses yX1_pieceCrosses, Cond.code yX1_pieceCrosses cX1_pieceCrosses 4 (some .boolean), Cond.methodLink RX1 44 yX1_leftOf, Cond.instanceMethod yX1_leftOf, Cond.selects RX1 yX1_leftOf yX1_leftOf, Cond.code yX1_leftOf cX1_leftOf 2 (some .int), Cond.fieldLink RX1 9 "CableOffice$Route" "x" "[I", Cond.methodLink RX1 35 Lib.Math.min.name, Cond.static Lib.Math.min.name, Cond.initialized "java/lang/Math"]
def wsX2_liesOnLifted_r2 : List Cond := [Cond.code Lib.Math.min.name Lib.Math.min.code 2 (some .int), Cond.methodLink RX1 47 yX1_lowOf, Cond.instanceMethod yX1_lowOf, Cond.selects RX1 yX1_lowOf yX1_lowOf, Cond.code yX1_lowOf cX1_lowOf 2 (some .int), Cond.fieldLink RX1 15 "CableOffice$Route" "y" "[I", Cond.methodLink RX1 50 yX1_rightOf, Cond.instanceMethod yX1_rightOf, Cond.selects RX1 yX1_rightOf yX1_rightOf, Cond.code yX1_rightOf cX1_rightOf 2 (some .int), Cond.methodLink RX1 41 Lib.Math.max.name, Cond.static Lib.Math.max.name, Cond.code Lib.Math.max.name Lib.Math.max.code 2 (some .int), Cond.methodLink RX1 53 yX1_highOf, Cond.instanceMethod yX1_highOf, Cond.selects RX1 yX1_highOf yX1_highOf, Cond.code yX1_highOf cX1_highOf 2 (some .int), Cond.methodLink RX1 56 yX1_boxMeets, Cond.instanceMethod yX1_boxMeets, Cond.selects RX1 yX1_boxMeets yX1_boxMeets, Cond.code yX1_boxMeets cX1_boxMeets 6 (some .boolean), Cond.methodLink RX1 60 yX1_lineDivides, Cond.instanceMethod yX1_lineDivides, Cond.selects RX1 yX1_lineDivides yX1_lineDivides]
def wsX2_liesOnLifted_r3 : List Cond := [Cond.code yX1_lineDivides cX1_lineDivides 6 (some .boolean), Cond.methodLink RX1 64 yX1_sideOf, Cond.instanceMethod yX1_sideOf, Cond.selects RX1 yX1_sideOf yX1_sideOf, Cond.code yX1_sideOf cX1_sideOf 4 (some .int), Cond.methodLink RX1 28 yX1_width, Cond.instanceMethod yX1_width, Cond.selects RX1 yX1_width yX1_width, Cond.code yX1_width cX1_width 2 (some .int), Cond.methodLink RX1 32 yX1_height, Cond.instanceMethod yX1_height, Cond.selects RX1 yX1_height yX1_height, Cond.code yX1_height cX1_height 2 (some .int)]
def wsX2_liesOnLifted : List Cond := .code yX2_liesOnLifted cX2_liesOnLifted 7 (some .boolean) :: ((wsX2_liesOnLifted_r1 ++ (wsX2_liesOnLifted_r2 ++ wsX2_liesOnLifted_r3)) ++ wsX20 ++ wsX10)
def wsX2_lyingOn_r1 : List Cond := [Cond.fieldLink RX2 16 "CableOffice" "routes" "[LCableOffice$Route;", Cond.instanceMethod yX1_pieces, Cond.initialized RX1, Cond.selects RX1 yX1_pieces yX1_pieces, Cond.code yX1_pieces cX1_pieces 1 (some .int), Cond.fieldLink RX1 18 "CableOffice$Route" "points" "I", Cond.methodLink RX2 229 yX2_liesOnLifted, Cond.instanceMethod yX2_liesOnLifted, Cond.selects RX2 yX2_liesOnLifted yX2_liesOnLifted, Cond.initialized RX2, Cond.code yX2_liesOnLifted cX2_liesOnLifted 7 (some .boolean), Cond.methodLink RX2 233 yX2_isIn, Cond.static yX2_isIn, Cond.code yX2_isIn cX2_isIn 4 (some .boolean), Cond.methodLink RX2 222 yX2_bitOf, Cond.static yX2_bitOf, Cond.code yX2_bitOf cX2_bitOf 2 (some .long), Cond.instanceMethod yX1_pieceCrosses, Cond.selects RX1 yX1_pieceCrosses yX1_pieceCrosses, Cond.code yX1_pieceCrosses cX1_pieceCrosses 4 (some .boolean), Cond.methodLink RX1 44 yX1_leftOf, Cond.instanceMethod yX1_leftOf, Cond.selects RX1 yX1_leftOf yX1_leftOf, Cond.code yX1_leftOf cX1_leftOf 2 (some .int)]
def wsX2_lyingOn_r2 : List Cond := [Cond.fieldLink RX1 9 "CableOffice$Route" "x" "[I", Cond.methodLink RX1 35 Lib.Math.min.name, Cond.static Lib.Math.min.name, Cond.initialized "java/lang/Math", Cond.code Lib.Math.min.name Lib.Math.min.code 2 (some .int), Cond.methodLink RX1 47 yX1_lowOf, Cond.instanceMethod yX1_lowOf, Cond.selects RX1 yX1_lowOf yX1_lowOf, Cond.code yX1_lowOf cX1_lowOf 2 (some .int), Cond.fieldLink RX1 15 "CableOffice$Route" "y" "[I", Cond.methodLink RX1 50 yX1_rightOf, Cond.instanceMethod yX1_rightOf, Cond.selects RX1 yX1_rightOf yX1_rightOf, Cond.code yX1_rightOf cX1_rightOf 2 (some .int), Cond.methodLink RX1 41 Lib.Math.max.name, Cond.static Lib.Math.max.name, Cond.code Lib.Math.max.name Lib.Math.max.code 2 (some .int), Cond.methodLink RX1 53 yX1_highOf, Cond.instanceMethod yX1_highOf, Cond.selects RX1 yX1_highOf yX1_highOf, Cond.code yX1_highOf cX1_highOf 2 (some .int), Cond.methodLink RX1 56 yX1_boxMeets, Cond.instanceMethod yX1_boxMeets, Cond.selects RX1 yX1_boxMeets yX1_boxMeets]
def wsX2_lyingOn_r3 : List Cond := [Cond.code yX1_boxMeets cX1_boxMeets 6 (some .boolean), Cond.methodLink RX1 60 yX1_lineDivides, Cond.instanceMethod yX1_lineDivides, Cond.selects RX1 yX1_lineDivides yX1_lineDivides, Cond.code yX1_lineDivides cX1_lineDivides 6 (some .boolean), Cond.methodLink RX1 64 yX1_sideOf, Cond.instanceMethod yX1_sideOf, Cond.selects RX1 yX1_sideOf yX1_sideOf, Cond.code yX1_sideOf cX1_sideOf 4 (some .int), Cond.methodLink RX1 28 yX1_width, Cond.instanceMethod yX1_width, Cond.selects RX1 yX1_width yX1_width, Cond.code yX1_width cX1_width 2 (some .int), Cond.methodLink RX1 32 yX1_height, Cond.instanceMethod yX1_height, Cond.selects RX1 yX1_height yX1_height, Cond.code yX1_height cX1_height 2 (some .int)]
def wsX2_lyingOn : List Cond := .code yX2_lyingOn cX2_lyingOn 8 (some .long) :: ((wsX2_lyingOn_r1 ++ (wsX2_lyingOn_r2 ++ wsX2_lyingOn_r3)) ++ wsX20 ++ wsX10)
def wsX2_liftedWith_r1 : List Cond := [Cond.fieldLink RX2 20 "CableOffice" "cableCount" "I", Cond.methodLink RX2 222 yX2_bitOf, Cond.static yX2_bitOf, Cond.initialized RX2, Cond.code yX2_bitOf cX2_bitOf 2 (some .long), Cond.methodLink RX2 225 yX2_lyingOn, Cond.instanceMethod yX2_lyingOn, Cond.selects RX2 yX2_lyingOn yX2_lyingOn, Cond.code yX2_lyingOn cX2_lyingOn 8 (some .long), Cond.fieldLink RX2 16 "CableOffice" "routes" "[LCableOffice$Route;", Cond.instanceMethod yX1_pieces, Cond.initialized RX1, Cond.selects RX1 yX1_pieces yX1_pieces, Cond.code yX1_pieces cX1_pieces 1 (some .int), Cond.fieldLink RX1 18 "CableOffice$Route" "points" "I", Cond.methodLink RX2 229 yX2_liesOnLifted, Cond.instanceMethod yX2_liesOnLifted, Cond.selects RX2 yX2_liesOnLifted yX2_liesOnLifted, Cond.code yX2_liesOnLifted cX2_liesOnLifted 7 (some .boolean), Cond.methodLink RX2 233 yX2_isIn, Cond.static yX2_isIn, Cond.code yX2_isIn cX2_isIn 4 (some .boolean), Cond.instanceMethod yX1_pieceCrosses, Cond.selects RX1 yX1_pieceCrosses yX1_pieceCrosses]
def wsX2_liftedWith_r2 : List Cond := [Cond.code yX1_pieceCrosses cX1_pieceCrosses 4 (some .boolean), Cond.methodLink RX1 44 yX1_leftOf, Cond.instanceMethod yX1_leftOf, Cond.selects RX1 yX1_leftOf yX1_leftOf, Cond.code yX1_leftOf cX1_leftOf 2 (some .int), Cond.fieldLink RX1 9 "CableOffice$Route" "x" "[I", Cond.methodLink RX1 35 Lib.Math.min.name, Cond.static Lib.Math.min.name, Cond.initialized "java/lang/Math", Cond.code Lib.Math.min.name Lib.Math.min.code 2 (some .int), Cond.methodLink RX1 47 yX1_lowOf, Cond.instanceMethod yX1_lowOf, Cond.selects RX1 yX1_lowOf yX1_lowOf, Cond.code yX1_lowOf cX1_lowOf 2 (some .int), Cond.fieldLink RX1 15 "CableOffice$Route" "y" "[I", Cond.methodLink RX1 50 yX1_rightOf, Cond.instanceMethod yX1_rightOf, Cond.selects RX1 yX1_rightOf yX1_rightOf, Cond.code yX1_rightOf cX1_rightOf 2 (some .int), Cond.methodLink RX1 41 Lib.Math.max.name, Cond.static Lib.Math.max.name, Cond.code Lib.Math.max.name Lib.Math.max.code 2 (some .int), Cond.methodLink RX1 53 yX1_highOf, Cond.instanceMethod yX1_highOf]
def wsX2_liftedWith_r3 : List Cond := [Cond.selects RX1 yX1_highOf yX1_highOf, Cond.code yX1_highOf cX1_highOf 2 (some .int), Cond.methodLink RX1 56 yX1_boxMeets, Cond.instanceMethod yX1_boxMeets, Cond.selects RX1 yX1_boxMeets yX1_boxMeets, Cond.code yX1_boxMeets cX1_boxMeets 6 (some .boolean), Cond.methodLink RX1 60 yX1_lineDivides, Cond.instanceMethod yX1_lineDivides, Cond.selects RX1 yX1_lineDivides yX1_lineDivides, Cond.code yX1_lineDivides cX1_lineDivides 6 (some .boolean), Cond.methodLink RX1 64 yX1_sideOf, Cond.instanceMethod yX1_sideOf, Cond.selects RX1 yX1_sideOf yX1_sideOf, Cond.code yX1_sideOf cX1_sideOf 4 (some .int), Cond.methodLink RX1 28 yX1_width, Cond.instanceMethod yX1_width, Cond.selects RX1 yX1_width yX1_width, Cond.code yX1_width cX1_width 2 (some .int), Cond.methodLink RX1 32 yX1_height, Cond.instanceMethod yX1_height, Cond.selects RX1 yX1_height yX1_height, Cond.code yX1_height cX1_height 2 (some .int)]
def wsX2_liftedWith : List Cond := .code yX2_liftedWith cX2_liftedWith 7 (some .long) :: ((wsX2_liftedWith_r1 ++ (wsX2_liftedWith_r2 ++ wsX2_liftedWith_r3)) ++ wsX20 ++ wsX10)
def wsJ13_bitCount_95d88 : List Cond := .code yJ13_bitCount_95d88 cJ13_bitCount_95d88 2 (some .int) :: ([.constantLong RJ13 314 (6148914691236517205), .constantLong RJ13 316 (3689348814741910323), .constantLong RJ13 318 (1085102592571150095)])
def wsX2_lifted_r1 : List Cond := [Cond.methodLink RX2 152 yX2_demandPiece, Cond.instanceMethod yX2_demandPiece, Cond.selects RX2 yX2_demandPiece yX2_demandPiece, Cond.initialized RX2, Cond.code yX2_demandPiece cX2_demandPiece 3 none, Cond.classLink RX2 190 "java/lang/IndexOutOfBoundsException", Cond.initialized "java/lang/IndexOutOfBoundsException", Cond.fieldLink RX2 16 "CableOffice" "routes" "[LCableOffice$Route;", Cond.methodLink RX2 195 yX2_demandCable, Cond.instanceMethod yX2_demandCable, Cond.selects RX2 yX2_demandCable yX2_demandCable, Cond.code yX2_demandCable cX2_demandCable 2 none, Cond.fieldLink RX2 20 "CableOffice" "cableCount" "I", Cond.instanceMethod yX1_pieces, Cond.initialized RX1, Cond.selects RX1 yX1_pieces yX1_pieces, Cond.code yX1_pieces cX1_pieces 1 (some .int), Cond.fieldLink RX1 18 "CableOffice$Route" "points" "I", Cond.methodLink RX2 159 yX2_liftedWith, Cond.instanceMethod yX2_liftedWith, Cond.selects RX2 yX2_liftedWith yX2_liftedWith, Cond.code yX2_liftedWith cX2_liftedWith 7 (some .long), Cond.methodLink RX2 222 yX2_bitOf, Cond.static yX2_bitOf]
def wsX2_lifted_r2 : List Cond := [Cond.code yX2_bitOf cX2_bitOf 2 (some .long), Cond.methodLink RX2 225 yX2_lyingOn, Cond.instanceMethod yX2_lyingOn, Cond.selects RX2 yX2_lyingOn yX2_lyingOn, Cond.code yX2_lyingOn cX2_lyingOn 8 (some .long), Cond.methodLink RX2 229 yX2_liesOnLifted, Cond.instanceMethod yX2_liesOnLifted, Cond.selects RX2 yX2_liesOnLifted yX2_liesOnLifted, Cond.code yX2_liesOnLifted cX2_liesOnLifted 7 (some .boolean), Cond.methodLink RX2 233 yX2_isIn, Cond.static yX2_isIn, Cond.code yX2_isIn cX2_isIn 4 (some .boolean), Cond.instanceMethod yX1_pieceCrosses, Cond.selects RX1 yX1_pieceCrosses yX1_pieceCrosses, Cond.code yX1_pieceCrosses cX1_pieceCrosses 4 (some .boolean), Cond.methodLink RX1 44 yX1_leftOf, Cond.instanceMethod yX1_leftOf, Cond.selects RX1 yX1_leftOf yX1_leftOf, Cond.code yX1_leftOf cX1_leftOf 2 (some .int), Cond.fieldLink RX1 9 "CableOffice$Route" "x" "[I", Cond.methodLink RX1 35 Lib.Math.min.name, Cond.static Lib.Math.min.name, Cond.initialized "java/lang/Math", Cond.code Lib.Math.min.name Lib.Math.min.code 2 (some .int)]
def wsX2_lifted_r3 : List Cond := [Cond.methodLink RX1 47 yX1_lowOf, Cond.instanceMethod yX1_lowOf, Cond.selects RX1 yX1_lowOf yX1_lowOf, Cond.code yX1_lowOf cX1_lowOf 2 (some .int), Cond.fieldLink RX1 15 "CableOffice$Route" "y" "[I", Cond.methodLink RX1 50 yX1_rightOf, Cond.instanceMethod yX1_rightOf, Cond.selects RX1 yX1_rightOf yX1_rightOf, Cond.code yX1_rightOf cX1_rightOf 2 (some .int), Cond.methodLink RX1 41 Lib.Math.max.name, Cond.static Lib.Math.max.name, Cond.code Lib.Math.max.name Lib.Math.max.code 2 (some .int), Cond.methodLink RX1 53 yX1_highOf, Cond.instanceMethod yX1_highOf, Cond.selects RX1 yX1_highOf yX1_highOf, Cond.code yX1_highOf cX1_highOf 2 (some .int), Cond.methodLink RX1 56 yX1_boxMeets, Cond.instanceMethod yX1_boxMeets, Cond.selects RX1 yX1_boxMeets yX1_boxMeets, Cond.code yX1_boxMeets cX1_boxMeets 6 (some .boolean), Cond.methodLink RX1 60 yX1_lineDivides, Cond.instanceMethod yX1_lineDivides, Cond.selects RX1 yX1_lineDivides yX1_lineDivides, Cond.code yX1_lineDivides cX1_lineDivides 6 (some .boolean)]
def wsX2_lifted_r4 : List Cond := [Cond.methodLink RX1 64 yX1_sideOf, Cond.instanceMethod yX1_sideOf, Cond.selects RX1 yX1_sideOf yX1_sideOf, Cond.code yX1_sideOf cX1_sideOf 4 (some .int), Cond.methodLink RX1 28 yX1_width, Cond.instanceMethod yX1_width, Cond.selects RX1 yX1_width yX1_width, Cond.code yX1_width cX1_width 2 (some .int), Cond.methodLink RX1 32 yX1_height, Cond.instanceMethod yX1_height, Cond.selects RX1 yX1_height yX1_height, Cond.code yX1_height cX1_height 2 (some .int), Cond.methodLink RX2 163 yJ13_bitCount_95d88, Cond.static yJ13_bitCount_95d88, Cond.initialized RJ13, Cond.code yJ13_bitCount_95d88 cJ13_bitCount_95d88 2 (some .int), Cond.constantLong RJ13 314 (6148914691236517205), Cond.constantLong RJ13 316 (3689348814741910323), Cond.constantLong RJ13 318 (1085102592571150095)]
def wsX2_lifted : List Cond := .code yX2_lifted cX2_lifted 3 (some .int) :: ((wsX2_lifted_r1 ++ (wsX2_lifted_r2 ++ (wsX2_lifted_r3 ++ wsX2_lifted_r4))) ++ wsX20 ++ wsX10 ++ (vx_atS RX2 194 "java/lang/IndexOutOfBoundsException" ["java/lang/RuntimeException", "java/lang/Exception"]).filter goodWord)
def wsX2_isPossible_r1 : List Cond := [Cond.fieldLink RX2 20 "CableOffice" "cableCount" "I", Cond.fieldLink RX2 31 "CableOffice" "agreed" "[Z", Cond.methodLink RX2 96 yX2_pairOf, Cond.static yX2_pairOf, Cond.initialized RX2, Cond.code yX2_pairOf cX2_pairOf 2 (some .int), Cond.methodLink RX2 207 Lib.Math.min.name, Cond.static Lib.Math.min.name, Cond.initialized "java/lang/Math", Cond.code Lib.Math.min.name Lib.Math.min.code 2 (some .int), Cond.methodLink RX2 212 Lib.Math.max.name, Cond.static Lib.Math.max.name, Cond.code Lib.Math.max.name Lib.Math.max.code 2 (some .int), Cond.methodLink RX2 225 yX2_lyingOn, Cond.instanceMethod yX2_lyingOn, Cond.selects RX2 yX2_lyingOn yX2_lyingOn, Cond.code yX2_lyingOn cX2_lyingOn 8 (some .long), Cond.fieldLink RX2 16 "CableOffice" "routes" "[LCableOffice$Route;", Cond.instanceMethod yX1_pieces, Cond.initialized RX1, Cond.selects RX1 yX1_pieces yX1_pieces, Cond.code yX1_pieces cX1_pieces 1 (some .int), Cond.fieldLink RX1 18 "CableOffice$Route" "points" "I", Cond.methodLink RX2 229 yX2_liesOnLifted]
def wsX2_isPossible_r2 : List Cond := [Cond.instanceMethod yX2_liesOnLifted, Cond.selects RX2 yX2_liesOnLifted yX2_liesOnLifted, Cond.code yX2_liesOnLifted cX2_liesOnLifted 7 (some .boolean), Cond.methodLink RX2 233 yX2_isIn, Cond.static yX2_isIn, Cond.code yX2_isIn cX2_isIn 4 (some .boolean), Cond.methodLink RX2 222 yX2_bitOf, Cond.static yX2_bitOf, Cond.code yX2_bitOf cX2_bitOf 2 (some .long), Cond.instanceMethod yX1_pieceCrosses, Cond.selects RX1 yX1_pieceCrosses yX1_pieceCrosses, Cond.code yX1_pieceCrosses cX1_pieceCrosses 4 (some .boolean), Cond.methodLink RX1 44 yX1_leftOf, Cond.instanceMethod yX1_leftOf, Cond.selects RX1 yX1_leftOf yX1_leftOf, Cond.code yX1_leftOf cX1_leftOf 2 (some .int), Cond.fieldLink RX1 9 "CableOffice$Route" "x" "[I", Cond.methodLink RX1 35 Lib.Math.min.name, Cond.methodLink RX1 47 yX1_lowOf, Cond.instanceMethod yX1_lowOf, Cond.selects RX1 yX1_lowOf yX1_lowOf, Cond.code yX1_lowOf cX1_lowOf 2 (some .int), Cond.fieldLink RX1 15 "CableOffice$Route" "y" "[I", Cond.methodLink RX1 50 yX1_rightOf]
def wsX2_isPossible_r3 : List Cond := [Cond.instanceMethod yX1_rightOf, Cond.selects RX1 yX1_rightOf yX1_rightOf, Cond.code yX1_rightOf cX1_rightOf 2 (some .int), Cond.methodLink RX1 41 Lib.Math.max.name, Cond.methodLink RX1 53 yX1_highOf, Cond.instanceMethod yX1_highOf, Cond.selects RX1 yX1_highOf yX1_highOf, Cond.code yX1_highOf cX1_highOf 2 (some .int), Cond.methodLink RX1 56 yX1_boxMeets, Cond.instanceMethod yX1_boxMeets, Cond.selects RX1 yX1_boxMeets yX1_boxMeets, Cond.code yX1_boxMeets cX1_boxMeets 6 (some .boolean), Cond.methodLink RX1 60 yX1_lineDivides, Cond.instanceMethod yX1_lineDivides, Cond.selects RX1 yX1_lineDivides yX1_lineDivides, Cond.code yX1_lineDivides cX1_lineDivides 6 (some .boolean), Cond.methodLink RX1 64 yX1_sideOf, Cond.instanceMethod yX1_sideOf, Cond.selects RX1 yX1_sideOf yX1_sideOf, Cond.code yX1_sideOf cX1_sideOf 4 (some .int), Cond.methodLink RX1 28 yX1_width, Cond.instanceMethod yX1_width, Cond.selects RX1 yX1_width yX1_width, Cond.code yX1_width cX1_width 2 (some .int)]
def wsX2_isPossible_r4 : List Cond := [Cond.methodLink RX1 32 yX1_height, Cond.instanceMethod yX1_height, Cond.selects RX1 yX1_height yX1_height, Cond.code yX1_height cX1_height 2 (some .int)]
def wsX2_isPossible : List Cond := .code yX2_isPossible cX2_isPossible 5 (some .boolean) :: ((wsX2_isPossible_r1 ++ (wsX2_isPossible_r2 ++ (wsX2_isPossible_r3 ++ wsX2_isPossible_r4))) ++ wsX20 ++ wsX10)
def wsX2_isMetByAny_r1 : List Cond := [Cond.fieldLink RX2 20 "CableOffice" "cableCount" "I", Cond.fieldLink RX2 16 "CableOffice" "routes" "[LCableOffice$Route;", Cond.instanceMethod yX1_pieces, Cond.initialized RX1, Cond.selects RX1 yX1_pieces yX1_pieces, Cond.code yX1_pieces cX1_pieces 1 (some .int), Cond.fieldLink RX1 18 "CableOffice$Route" "points" "I", Cond.methodLink RX2 233 yX2_isIn, Cond.static yX2_isIn, Cond.initialized RX2, Cond.code yX2_isIn cX2_isIn 4 (some .boolean), Cond.methodLink RX2 222 yX2_bitOf, Cond.static yX2_bitOf, Cond.code yX2_bitOf cX2_bitOf 2 (some .long), Cond.instanceMethod yX1_pieceMeets, Cond.selects RX1 yX1_pieceMeets yX1_pieceMeets, Cond.code yX1_pieceMeets cX1_pieceMeets 3 (some .boolean), Cond.methodLink RX1 56 yX1_boxMeets, Cond.instanceMethod yX1_boxMeets, Cond.selects RX1 yX1_boxMeets yX1_boxMeets, Cond.code yX1_boxMeets cX1_boxMeets 6 (some .boolean), Cond.methodLink RX1 44 yX1_leftOf, Cond.instanceMethod yX1_leftOf, Cond.selects RX1 yX1_leftOf yX1_leftOf]
def wsX2_isMetByAny_r2 : List Cond := [Cond.code yX1_leftOf cX1_leftOf 2 (some .int), Cond.fieldLink RX1 9 "CableOffice$Route" "x" "[I", Cond.methodLink RX1 35 Lib.Math.min.name, Cond.static Lib.Math.min.name, Cond.initialized "java/lang/Math", Cond.code Lib.Math.min.name Lib.Math.min.code 2 (some .int), Cond.methodLink RX1 50 yX1_rightOf, Cond.instanceMethod yX1_rightOf, Cond.selects RX1 yX1_rightOf yX1_rightOf, Cond.code yX1_rightOf cX1_rightOf 2 (some .int), Cond.methodLink RX1 41 Lib.Math.max.name, Cond.static Lib.Math.max.name, Cond.code Lib.Math.max.name Lib.Math.max.code 2 (some .int), Cond.methodLink RX1 47 yX1_lowOf, Cond.instanceMethod yX1_lowOf, Cond.selects RX1 yX1_lowOf yX1_lowOf, Cond.code yX1_lowOf cX1_lowOf 2 (some .int), Cond.fieldLink RX1 15 "CableOffice$Route" "y" "[I", Cond.methodLink RX1 53 yX1_highOf, Cond.instanceMethod yX1_highOf, Cond.selects RX1 yX1_highOf yX1_highOf, Cond.code yX1_highOf cX1_highOf 2 (some .int), Cond.methodLink RX1 85 yX1_lineMeets, Cond.instanceMethod yX1_lineMeets]
def wsX2_isMetByAny_r3 : List Cond := [Cond.selects RX1 yX1_lineMeets yX1_lineMeets, Cond.code yX1_lineMeets cX1_lineMeets 7 (some .boolean), Cond.methodLink RX1 64 yX1_sideOf, Cond.instanceMethod yX1_sideOf, Cond.selects RX1 yX1_sideOf yX1_sideOf, Cond.code yX1_sideOf cX1_sideOf 4 (some .int), Cond.methodLink RX1 28 yX1_width, Cond.instanceMethod yX1_width, Cond.selects RX1 yX1_width yX1_width, Cond.code yX1_width cX1_width 2 (some .int), Cond.methodLink RX1 32 yX1_height, Cond.instanceMethod yX1_height, Cond.selects RX1 yX1_height yX1_height, Cond.code yX1_height cX1_height 2 (some .int)]
def wsX2_isMetByAny : List Cond := .code yX2_isMetByAny cX2_isMetByAny 6 (some .boolean) :: ((wsX2_isMetByAny_r1 ++ (wsX2_isMetByAny_r2 ++ wsX2_isMetByAny_r3)) ++ wsX20 ++ wsX10 ++ wsX00)
def wsX2_isOwed_r1 : List Cond := [Cond.instanceMethod yX0_isShutIn, Cond.initialized RX0, Cond.selects RX0 yX0_isShutIn yX0_isShutIn, Cond.code yX0_isShutIn cX0_isShutIn 2 (some .boolean), Cond.fieldLink RX0 22 "CableOffice$Ground" "from" "I", Cond.fieldLink RX0 25 "CableOffice$Ground" "to" "I", Cond.methodLink RX2 241 yX2_isMetByAny, Cond.instanceMethod yX2_isMetByAny, Cond.selects RX2 yX2_isMetByAny yX2_isMetByAny, Cond.initialized RX2, Cond.code yX2_isMetByAny cX2_isMetByAny 6 (some .boolean), Cond.fieldLink RX2 20 "CableOffice" "cableCount" "I", Cond.fieldLink RX2 16 "CableOffice" "routes" "[LCableOffice$Route;", Cond.instanceMethod yX1_pieces, Cond.initialized RX1, Cond.selects RX1 yX1_pieces yX1_pieces, Cond.code yX1_pieces cX1_pieces 1 (some .int), Cond.fieldLink RX1 18 "CableOffice$Route" "points" "I", Cond.methodLink RX2 233 yX2_isIn, Cond.static yX2_isIn, Cond.code yX2_isIn cX2_isIn 4 (some .boolean), Cond.methodLink RX2 222 yX2_bitOf, Cond.static yX2_bitOf, Cond.code yX2_bitOf cX2_bitOf 2 (some .long)]
def wsX2_isOwed_r2 : List Cond := [Cond.instanceMethod yX1_pieceMeets, Cond.selects RX1 yX1_pieceMeets yX1_pieceMeets, Cond.code yX1_pieceMeets cX1_pieceMeets 3 (some .boolean), Cond.methodLink RX1 56 yX1_boxMeets, Cond.instanceMethod yX1_boxMeets, Cond.selects RX1 yX1_boxMeets yX1_boxMeets, Cond.code yX1_boxMeets cX1_boxMeets 6 (some .boolean), Cond.methodLink RX1 44 yX1_leftOf, Cond.instanceMethod yX1_leftOf, Cond.selects RX1 yX1_leftOf yX1_leftOf, Cond.code yX1_leftOf cX1_leftOf 2 (some .int), Cond.fieldLink RX1 9 "CableOffice$Route" "x" "[I", Cond.methodLink RX1 35 Lib.Math.min.name, Cond.static Lib.Math.min.name, Cond.initialized "java/lang/Math", Cond.code Lib.Math.min.name Lib.Math.min.code 2 (some .int), Cond.methodLink RX1 50 yX1_rightOf, Cond.instanceMethod yX1_rightOf, Cond.selects RX1 yX1_rightOf yX1_rightOf, Cond.code yX1_rightOf cX1_rightOf 2 (some .int), Cond.methodLink RX1 41 Lib.Math.max.name, Cond.static Lib.Math.max.name, Cond.code Lib.Math.max.name Lib.Math.max.code 2 (some .int), Cond.methodLink RX1 47 yX1_lowOf]
def wsX2_isOwed_r3 : List Cond := [Cond.instanceMethod yX1_lowOf, Cond.selects RX1 yX1_lowOf yX1_lowOf, Cond.code yX1_lowOf cX1_lowOf 2 (some .int), Cond.fieldLink RX1 15 "CableOffice$Route" "y" "[I", Cond.methodLink RX1 53 yX1_highOf, Cond.instanceMethod yX1_highOf, Cond.selects RX1 yX1_highOf yX1_highOf, Cond.code yX1_highOf cX1_highOf 2 (some .int), Cond.methodLink RX1 85 yX1_lineMeets, Cond.instanceMethod yX1_lineMeets, Cond.selects RX1 yX1_lineMeets yX1_lineMeets, Cond.code yX1_lineMeets cX1_lineMeets 7 (some .boolean), Cond.methodLink RX1 64 yX1_sideOf, Cond.instanceMethod yX1_sideOf, Cond.selects RX1 yX1_sideOf yX1_sideOf, Cond.code yX1_sideOf cX1_sideOf 4 (some .int), Cond.methodLink RX1 28 yX1_width, Cond.instanceMethod yX1_width, Cond.selects RX1 yX1_width yX1_width, Cond.code yX1_width cX1_width 2 (some .int), Cond.methodLink RX1 32 yX1_height, Cond.instanceMethod yX1_height, Cond.selects RX1 yX1_height yX1_height, Cond.code yX1_height cX1_height 2 (some .int)]
def wsX2_isOwed : List Cond := .code yX2_isOwed cX2_isOwed 5 (some .boolean) :: ((wsX2_isOwed_r1 ++ (wsX2_isOwed_r2 ++ wsX2_isOwed_r3)) ++ wsX00 ++ wsX20 ++ wsX10)
def wsX2_costOf_r1 : List Cond := [Cond.fieldLink RX2 41 "CableOffice" "groundCount" "I", Cond.fieldLink RX2 37 "CableOffice" "grounds" "[LCableOffice$Ground;", Cond.methodLink RX2 163 yJ13_bitCount_95d88, Cond.static yJ13_bitCount_95d88, Cond.initialized RJ13, Cond.code yJ13_bitCount_95d88 cJ13_bitCount_95d88 2 (some .int), Cond.constantLong RJ13 314 (6148914691236517205), Cond.constantLong RJ13 316 (3689348814741910323), Cond.constantLong RJ13 318 (1085102592571150095), Cond.methodLink RX2 237 yX2_isOwed, Cond.instanceMethod yX2_isOwed, Cond.selects RX2 yX2_isOwed yX2_isOwed, Cond.initialized RX2, Cond.code yX2_isOwed cX2_isOwed 5 (some .boolean), Cond.instanceMethod yX0_isShutIn, Cond.initialized RX0, Cond.selects RX0 yX0_isShutIn yX0_isShutIn, Cond.code yX0_isShutIn cX0_isShutIn 2 (some .boolean), Cond.fieldLink RX0 22 "CableOffice$Ground" "from" "I", Cond.fieldLink RX0 25 "CableOffice$Ground" "to" "I", Cond.methodLink RX2 241 yX2_isMetByAny, Cond.instanceMethod yX2_isMetByAny, Cond.selects RX2 yX2_isMetByAny yX2_isMetByAny, Cond.code yX2_isMetByAny cX2_isMetByAny 6 (some .boolean)]
def wsX2_costOf_r2 : List Cond := [Cond.fieldLink RX2 20 "CableOffice" "cableCount" "I", Cond.fieldLink RX2 16 "CableOffice" "routes" "[LCableOffice$Route;", Cond.instanceMethod yX1_pieces, Cond.initialized RX1, Cond.selects RX1 yX1_pieces yX1_pieces, Cond.code yX1_pieces cX1_pieces 1 (some .int), Cond.fieldLink RX1 18 "CableOffice$Route" "points" "I", Cond.methodLink RX2 233 yX2_isIn, Cond.static yX2_isIn, Cond.code yX2_isIn cX2_isIn 4 (some .boolean), Cond.methodLink RX2 222 yX2_bitOf, Cond.static yX2_bitOf, Cond.code yX2_bitOf cX2_bitOf 2 (some .long), Cond.instanceMethod yX1_pieceMeets, Cond.selects RX1 yX1_pieceMeets yX1_pieceMeets, Cond.code yX1_pieceMeets cX1_pieceMeets 3 (some .boolean), Cond.methodLink RX1 56 yX1_boxMeets, Cond.instanceMethod yX1_boxMeets, Cond.selects RX1 yX1_boxMeets yX1_boxMeets, Cond.code yX1_boxMeets cX1_boxMeets 6 (some .boolean), Cond.methodLink RX1 44 yX1_leftOf, Cond.instanceMethod yX1_leftOf, Cond.selects RX1 yX1_leftOf yX1_leftOf, Cond.code yX1_leftOf cX1_leftOf 2 (some .int)]
def wsX2_costOf_r3 : List Cond := [Cond.fieldLink RX1 9 "CableOffice$Route" "x" "[I", Cond.methodLink RX1 35 Lib.Math.min.name, Cond.static Lib.Math.min.name, Cond.initialized "java/lang/Math", Cond.code Lib.Math.min.name Lib.Math.min.code 2 (some .int), Cond.methodLink RX1 50 yX1_rightOf, Cond.instanceMethod yX1_rightOf, Cond.selects RX1 yX1_rightOf yX1_rightOf, Cond.code yX1_rightOf cX1_rightOf 2 (some .int), Cond.methodLink RX1 41 Lib.Math.max.name, Cond.static Lib.Math.max.name, Cond.code Lib.Math.max.name Lib.Math.max.code 2 (some .int), Cond.methodLink RX1 47 yX1_lowOf, Cond.instanceMethod yX1_lowOf, Cond.selects RX1 yX1_lowOf yX1_lowOf, Cond.code yX1_lowOf cX1_lowOf 2 (some .int), Cond.fieldLink RX1 15 "CableOffice$Route" "y" "[I", Cond.methodLink RX1 53 yX1_highOf, Cond.instanceMethod yX1_highOf, Cond.selects RX1 yX1_highOf yX1_highOf, Cond.code yX1_highOf cX1_highOf 2 (some .int), Cond.methodLink RX1 85 yX1_lineMeets, Cond.instanceMethod yX1_lineMeets, Cond.selects RX1 yX1_lineMeets yX1_lineMeets]
def wsX2_costOf_r4 : List Cond := [Cond.code yX1_lineMeets cX1_lineMeets 7 (some .boolean), Cond.methodLink RX1 64 yX1_sideOf, Cond.instanceMethod yX1_sideOf, Cond.selects RX1 yX1_sideOf yX1_sideOf, Cond.code yX1_sideOf cX1_sideOf 4 (some .int), Cond.methodLink RX1 28 yX1_width, Cond.instanceMethod yX1_width, Cond.selects RX1 yX1_width yX1_width, Cond.code yX1_width cX1_width 2 (some .int), Cond.methodLink RX1 32 yX1_height, Cond.instanceMethod yX1_height, Cond.selects RX1 yX1_height yX1_height, Cond.code yX1_height cX1_height 2 (some .int), Cond.instanceMethod yX0_price, Cond.selects RX0 yX0_price yX0_price, Cond.code yX0_price cX0_price 1 (some .int), Cond.fieldLink RX0 28 "CableOffice$Ground" "catches" "I", Cond.fieldLink RX0 31 "CableOffice$Ground" "catchSum" "I"]
def wsX2_costOf : List Cond := .code yX2_costOf cX2_costOf 6 (some .int) :: ((wsX2_costOf_r1 ++ (wsX2_costOf_r2 ++ (wsX2_costOf_r3 ++ wsX2_costOf_r4))) ++ wsX20 ++ wsX00 ++ wsX10)
def wsX2_cost_r1 : List Cond := [Cond.methodLink RX2 152 yX2_demandPiece, Cond.instanceMethod yX2_demandPiece, Cond.selects RX2 yX2_demandPiece yX2_demandPiece, Cond.initialized RX2, Cond.code yX2_demandPiece cX2_demandPiece 3 none, Cond.classLink RX2 190 "java/lang/IndexOutOfBoundsException", Cond.initialized "java/lang/IndexOutOfBoundsException", Cond.fieldLink RX2 16 "CableOffice" "routes" "[LCableOffice$Route;", Cond.methodLink RX2 195 yX2_demandCable, Cond.instanceMethod yX2_demandCable, Cond.selects RX2 yX2_demandCable yX2_demandCable, Cond.code yX2_demandCable cX2_demandCable 2 none, Cond.fieldLink RX2 20 "CableOffice" "cableCount" "I", Cond.instanceMethod yX1_pieces, Cond.initialized RX1, Cond.selects RX1 yX1_pieces yX1_pieces, Cond.code yX1_pieces cX1_pieces 1 (some .int), Cond.fieldLink RX1 18 "CableOffice$Route" "points" "I", Cond.methodLink RX2 118 yX2_demandMonth, Cond.static yX2_demandMonth, Cond.code yX2_demandMonth cX2_demandMonth 1 none, Cond.classLink RX2 113 "java/lang/IllegalArgumentException", Cond.initialized "java/lang/IllegalArgumentException", Cond.methodLink RX2 159 yX2_liftedWith]
def wsX2_cost_r2 : List Cond := [Cond.instanceMethod yX2_liftedWith, Cond.selects RX2 yX2_liftedWith yX2_liftedWith, Cond.code yX2_liftedWith cX2_liftedWith 7 (some .long), Cond.methodLink RX2 222 yX2_bitOf, Cond.static yX2_bitOf, Cond.code yX2_bitOf cX2_bitOf 2 (some .long), Cond.methodLink RX2 225 yX2_lyingOn, Cond.instanceMethod yX2_lyingOn, Cond.selects RX2 yX2_lyingOn yX2_lyingOn, Cond.code yX2_lyingOn cX2_lyingOn 8 (some .long), Cond.methodLink RX2 229 yX2_liesOnLifted, Cond.instanceMethod yX2_liesOnLifted, Cond.selects RX2 yX2_liesOnLifted yX2_liesOnLifted, Cond.code yX2_liesOnLifted cX2_liesOnLifted 7 (some .boolean), Cond.methodLink RX2 233 yX2_isIn, Cond.static yX2_isIn, Cond.code yX2_isIn cX2_isIn 4 (some .boolean), Cond.instanceMethod yX1_pieceCrosses, Cond.selects RX1 yX1_pieceCrosses yX1_pieceCrosses, Cond.code yX1_pieceCrosses cX1_pieceCrosses 4 (some .boolean), Cond.methodLink RX1 44 yX1_leftOf, Cond.instanceMethod yX1_leftOf, Cond.selects RX1 yX1_leftOf yX1_leftOf, Cond.code yX1_leftOf cX1_leftOf 2 (some .int)]
def wsX2_cost_r3 : List Cond := [Cond.fieldLink RX1 9 "CableOffice$Route" "x" "[I", Cond.methodLink RX1 35 Lib.Math.min.name, Cond.static Lib.Math.min.name, Cond.initialized "java/lang/Math", Cond.code Lib.Math.min.name Lib.Math.min.code 2 (some .int), Cond.methodLink RX1 47 yX1_lowOf, Cond.instanceMethod yX1_lowOf, Cond.selects RX1 yX1_lowOf yX1_lowOf, Cond.code yX1_lowOf cX1_lowOf 2 (some .int), Cond.fieldLink RX1 15 "CableOffice$Route" "y" "[I", Cond.methodLink RX1 50 yX1_rightOf, Cond.instanceMethod yX1_rightOf, Cond.selects RX1 yX1_rightOf yX1_rightOf, Cond.code yX1_rightOf cX1_rightOf 2 (some .int), Cond.methodLink RX1 41 Lib.Math.max.name, Cond.static Lib.Math.max.name, Cond.code Lib.Math.max.name Lib.Math.max.code 2 (some .int), Cond.methodLink RX1 53 yX1_highOf, Cond.instanceMethod yX1_highOf, Cond.selects RX1 yX1_highOf yX1_highOf, Cond.code yX1_highOf cX1_highOf 2 (some .int), Cond.methodLink RX1 56 yX1_boxMeets, Cond.instanceMethod yX1_boxMeets, Cond.selects RX1 yX1_boxMeets yX1_boxMeets]
def wsX2_cost_r4 : List Cond := [Cond.code yX1_boxMeets cX1_boxMeets 6 (some .boolean), Cond.methodLink RX1 60 yX1_lineDivides, Cond.instanceMethod yX1_lineDivides, Cond.selects RX1 yX1_lineDivides yX1_lineDivides, Cond.code yX1_lineDivides cX1_lineDivides 6 (some .boolean), Cond.methodLink RX1 64 yX1_sideOf, Cond.instanceMethod yX1_sideOf, Cond.selects RX1 yX1_sideOf yX1_sideOf, Cond.code yX1_sideOf cX1_sideOf 4 (some .int), Cond.methodLink RX1 28 yX1_width, Cond.instanceMethod yX1_width, Cond.selects RX1 yX1_width yX1_width, Cond.code yX1_width cX1_width 2 (some .int), Cond.methodLink RX1 32 yX1_height, Cond.instanceMethod yX1_height, Cond.selects RX1 yX1_height yX1_height, Cond.code yX1_height cX1_height 2 (some .int), Cond.methodLink RX2 169 yX2_isPossible, Cond.instanceMethod yX2_isPossible, Cond.selects RX2 yX2_isPossible yX2_isPossible, Cond.code yX2_isPossible cX2_isPossible 5 (some .boolean), Cond.fieldLink RX2 31 "CableOffice" "agreed" "[Z", Cond.methodLink RX2 96 yX2_pairOf, Cond.static yX2_pairOf]
def wsX2_cost_r5 : List Cond := [Cond.code yX2_pairOf cX2_pairOf 2 (some .int), Cond.methodLink RX2 207 Lib.Math.min.name, Cond.methodLink RX2 212 Lib.Math.max.name, Cond.methodLink RX2 173 yX2_costOf, Cond.instanceMethod yX2_costOf, Cond.selects RX2 yX2_costOf yX2_costOf, Cond.code yX2_costOf cX2_costOf 6 (some .int), Cond.fieldLink RX2 41 "CableOffice" "groundCount" "I", Cond.fieldLink RX2 37 "CableOffice" "grounds" "[LCableOffice$Ground;", Cond.methodLink RX2 163 yJ13_bitCount_95d88, Cond.static yJ13_bitCount_95d88, Cond.initialized RJ13, Cond.code yJ13_bitCount_95d88 cJ13_bitCount_95d88 2 (some .int), Cond.constantLong RJ13 314 (6148914691236517205), Cond.constantLong RJ13 316 (3689348814741910323), Cond.constantLong RJ13 318 (1085102592571150095), Cond.methodLink RX2 237 yX2_isOwed, Cond.instanceMethod yX2_isOwed, Cond.selects RX2 yX2_isOwed yX2_isOwed, Cond.code yX2_isOwed cX2_isOwed 5 (some .boolean), Cond.instanceMethod yX0_isShutIn, Cond.initialized RX0, Cond.selects RX0 yX0_isShutIn yX0_isShutIn, Cond.code yX0_isShutIn cX0_isShutIn 2 (some .boolean)]
def wsX2_cost_r6 : List Cond := [Cond.fieldLink RX0 22 "CableOffice$Ground" "from" "I", Cond.fieldLink RX0 25 "CableOffice$Ground" "to" "I", Cond.methodLink RX2 241 yX2_isMetByAny, Cond.instanceMethod yX2_isMetByAny, Cond.selects RX2 yX2_isMetByAny yX2_isMetByAny, Cond.code yX2_isMetByAny cX2_isMetByAny 6 (some .boolean), Cond.instanceMethod yX1_pieceMeets, Cond.selects RX1 yX1_pieceMeets yX1_pieceMeets, Cond.code yX1_pieceMeets cX1_pieceMeets 3 (some .boolean), Cond.methodLink RX1 85 yX1_lineMeets, Cond.instanceMethod yX1_lineMeets, Cond.selects RX1 yX1_lineMeets yX1_lineMeets, Cond.code yX1_lineMeets cX1_lineMeets 7 (some .boolean), Cond.instanceMethod yX0_price, Cond.selects RX0 yX0_price yX0_price, Cond.code yX0_price cX0_price 1 (some .int), Cond.fieldLink RX0 28 "CableOffice$Ground" "catches" "I", Cond.fieldLink RX0 31 "CableOffice$Ground" "catchSum" "I"]
def wsX2_cost : List Cond := .code yX2_cost cX2_cost 6 (some .int) :: ((wsX2_cost_r1 ++ (wsX2_cost_r2 ++ (wsX2_cost_r3 ++ (wsX2_cost_r4 ++ (wsX2_cost_r5 ++ wsX2_cost_r6))))) ++ wsX20 ++ wsX10 ++ wsX00 ++ (vx_atS RX2 194 "java/lang/IndexOutOfBoundsException" ["java/lang/RuntimeException", "java/lang/Exception"]).filter goodWord ++ (vx_atS RX2 117 "java/lang/IllegalArgumentException" ["java/lang/RuntimeException", "java/lang/Exception"]).filter goodWord)
def wsX2_payGrounds_r1 : List Cond := [Cond.fieldLink RX2 41 "CableOffice" "groundCount" "I", Cond.fieldLink RX2 37 "CableOffice" "grounds" "[LCableOffice$Ground;", Cond.methodLink RX2 237 yX2_isOwed, Cond.instanceMethod yX2_isOwed, Cond.selects RX2 yX2_isOwed yX2_isOwed, Cond.initialized RX2, Cond.code yX2_isOwed cX2_isOwed 5 (some .boolean), Cond.instanceMethod yX0_isShutIn, Cond.initialized RX0, Cond.selects RX0 yX0_isShutIn yX0_isShutIn, Cond.code yX0_isShutIn cX0_isShutIn 2 (some .boolean), Cond.fieldLink RX0 22 "CableOffice$Ground" "from" "I", Cond.fieldLink RX0 25 "CableOffice$Ground" "to" "I", Cond.methodLink RX2 241 yX2_isMetByAny, Cond.instanceMethod yX2_isMetByAny, Cond.selects RX2 yX2_isMetByAny yX2_isMetByAny, Cond.code yX2_isMetByAny cX2_isMetByAny 6 (some .boolean), Cond.fieldLink RX2 20 "CableOffice" "cableCount" "I", Cond.fieldLink RX2 16 "CableOffice" "routes" "[LCableOffice$Route;", Cond.instanceMethod yX1_pieces, Cond.initialized RX1, Cond.selects RX1 yX1_pieces yX1_pieces, Cond.code yX1_pieces cX1_pieces 1 (some .int), Cond.fieldLink RX1 18 "CableOffice$Route" "points" "I"]
def wsX2_payGrounds_r2 : List Cond := [Cond.methodLink RX2 233 yX2_isIn, Cond.static yX2_isIn, Cond.code yX2_isIn cX2_isIn 4 (some .boolean), Cond.methodLink RX2 222 yX2_bitOf, Cond.static yX2_bitOf, Cond.code yX2_bitOf cX2_bitOf 2 (some .long), Cond.instanceMethod yX1_pieceMeets, Cond.selects RX1 yX1_pieceMeets yX1_pieceMeets, Cond.code yX1_pieceMeets cX1_pieceMeets 3 (some .boolean), Cond.methodLink RX1 56 yX1_boxMeets, Cond.instanceMethod yX1_boxMeets, Cond.selects RX1 yX1_boxMeets yX1_boxMeets, Cond.code yX1_boxMeets cX1_boxMeets 6 (some .boolean), Cond.methodLink RX1 44 yX1_leftOf, Cond.instanceMethod yX1_leftOf, Cond.selects RX1 yX1_leftOf yX1_leftOf, Cond.code yX1_leftOf cX1_leftOf 2 (some .int), Cond.fieldLink RX1 9 "CableOffice$Route" "x" "[I", Cond.methodLink RX1 35 Lib.Math.min.name, Cond.static Lib.Math.min.name, Cond.initialized "java/lang/Math", Cond.code Lib.Math.min.name Lib.Math.min.code 2 (some .int), Cond.methodLink RX1 50 yX1_rightOf, Cond.instanceMethod yX1_rightOf]
def wsX2_payGrounds_r3 : List Cond := [Cond.selects RX1 yX1_rightOf yX1_rightOf, Cond.code yX1_rightOf cX1_rightOf 2 (some .int), Cond.methodLink RX1 41 Lib.Math.max.name, Cond.static Lib.Math.max.name, Cond.code Lib.Math.max.name Lib.Math.max.code 2 (some .int), Cond.methodLink RX1 47 yX1_lowOf, Cond.instanceMethod yX1_lowOf, Cond.selects RX1 yX1_lowOf yX1_lowOf, Cond.code yX1_lowOf cX1_lowOf 2 (some .int), Cond.fieldLink RX1 15 "CableOffice$Route" "y" "[I", Cond.methodLink RX1 53 yX1_highOf, Cond.instanceMethod yX1_highOf, Cond.selects RX1 yX1_highOf yX1_highOf, Cond.code yX1_highOf cX1_highOf 2 (some .int), Cond.methodLink RX1 85 yX1_lineMeets, Cond.instanceMethod yX1_lineMeets, Cond.selects RX1 yX1_lineMeets yX1_lineMeets, Cond.code yX1_lineMeets cX1_lineMeets 7 (some .boolean), Cond.methodLink RX1 64 yX1_sideOf, Cond.instanceMethod yX1_sideOf, Cond.selects RX1 yX1_sideOf yX1_sideOf, Cond.code yX1_sideOf cX1_sideOf 4 (some .int), Cond.methodLink RX1 28 yX1_width, Cond.instanceMethod yX1_width]
def wsX2_payGrounds_r4 : List Cond := [Cond.selects RX1 yX1_width yX1_width, Cond.code yX1_width cX1_width 2 (some .int), Cond.methodLink RX1 32 yX1_height, Cond.instanceMethod yX1_height, Cond.selects RX1 yX1_height yX1_height, Cond.code yX1_height cX1_height 2 (some .int), Cond.instanceMethod yX0_price, Cond.selects RX0 yX0_price yX0_price, Cond.code yX0_price cX0_price 1 (some .int), Cond.fieldLink RX0 28 "CableOffice$Ground" "catches" "I", Cond.fieldLink RX0 31 "CableOffice$Ground" "catchSum" "I"]
def wsX2_payGrounds : List Cond := .code yX2_payGrounds cX2_payGrounds 5 none :: ((wsX2_payGrounds_r1 ++ (wsX2_payGrounds_r2 ++ (wsX2_payGrounds_r3 ++ wsX2_payGrounds_r4))) ++ wsX20 ++ wsX00 ++ wsX10)
def wsX2_repair_r1 : List Cond := [Cond.classLink RX2 59 "java/lang/IllegalStateException", Cond.initialized "java/lang/IllegalStateException", Cond.fieldLink RX2 44 "CableOffice" "repairCount" "I", Cond.methodLink RX2 152 yX2_demandPiece, Cond.instanceMethod yX2_demandPiece, Cond.selects RX2 yX2_demandPiece yX2_demandPiece, Cond.initialized RX2, Cond.code yX2_demandPiece cX2_demandPiece 3 none, Cond.classLink RX2 190 "java/lang/IndexOutOfBoundsException", Cond.initialized "java/lang/IndexOutOfBoundsException", Cond.fieldLink RX2 16 "CableOffice" "routes" "[LCableOffice$Route;", Cond.methodLink RX2 195 yX2_demandCable, Cond.instanceMethod yX2_demandCable, Cond.selects RX2 yX2_demandCable yX2_demandCable, Cond.code yX2_demandCable cX2_demandCable 2 none, Cond.fieldLink RX2 20 "CableOffice" "cableCount" "I", Cond.instanceMethod yX1_pieces, Cond.initialized RX1, Cond.selects RX1 yX1_pieces yX1_pieces, Cond.code yX1_pieces cX1_pieces 1 (some .int), Cond.fieldLink RX1 18 "CableOffice$Route" "points" "I", Cond.methodLink RX2 118 yX2_demandMonth, Cond.static yX2_demandMonth, Cond.code yX2_demandMonth cX2_demandMonth 1 none]
def wsX2_repair_r2 : List Cond := [Cond.classLink RX2 113 "java/lang/IllegalArgumentException", Cond.initialized "java/lang/IllegalArgumentException", Cond.methodLink RX2 159 yX2_liftedWith, Cond.instanceMethod yX2_liftedWith, Cond.selects RX2 yX2_liftedWith yX2_liftedWith, Cond.code yX2_liftedWith cX2_liftedWith 7 (some .long), Cond.methodLink RX2 222 yX2_bitOf, Cond.static yX2_bitOf, Cond.code yX2_bitOf cX2_bitOf 2 (some .long), Cond.methodLink RX2 225 yX2_lyingOn, Cond.instanceMethod yX2_lyingOn, Cond.selects RX2 yX2_lyingOn yX2_lyingOn, Cond.code yX2_lyingOn cX2_lyingOn 8 (some .long), Cond.methodLink RX2 229 yX2_liesOnLifted, Cond.instanceMethod yX2_liesOnLifted, Cond.selects RX2 yX2_liesOnLifted yX2_liesOnLifted, Cond.code yX2_liesOnLifted cX2_liesOnLifted 7 (some .boolean), Cond.methodLink RX2 233 yX2_isIn, Cond.static yX2_isIn, Cond.code yX2_isIn cX2_isIn 4 (some .boolean), Cond.instanceMethod yX1_pieceCrosses, Cond.selects RX1 yX1_pieceCrosses yX1_pieceCrosses, Cond.code yX1_pieceCrosses cX1_pieceCrosses 4 (some .boolean), Cond.methodLink RX1 44 yX1_leftOf]
def wsX2_repair_r3 : List Cond := [Cond.instanceMethod yX1_leftOf, Cond.selects RX1 yX1_leftOf yX1_leftOf, Cond.code yX1_leftOf cX1_leftOf 2 (some .int), Cond.fieldLink RX1 9 "CableOffice$Route" "x" "[I", Cond.methodLink RX1 35 Lib.Math.min.name, Cond.static Lib.Math.min.name, Cond.initialized "java/lang/Math", Cond.code Lib.Math.min.name Lib.Math.min.code 2 (some .int), Cond.methodLink RX1 47 yX1_lowOf, Cond.instanceMethod yX1_lowOf, Cond.selects RX1 yX1_lowOf yX1_lowOf, Cond.code yX1_lowOf cX1_lowOf 2 (some .int), Cond.fieldLink RX1 15 "CableOffice$Route" "y" "[I", Cond.methodLink RX1 50 yX1_rightOf, Cond.instanceMethod yX1_rightOf, Cond.selects RX1 yX1_rightOf yX1_rightOf, Cond.code yX1_rightOf cX1_rightOf 2 (some .int), Cond.methodLink RX1 41 Lib.Math.max.name, Cond.static Lib.Math.max.name, Cond.code Lib.Math.max.name Lib.Math.max.code 2 (some .int), Cond.methodLink RX1 53 yX1_highOf, Cond.instanceMethod yX1_highOf, Cond.selects RX1 yX1_highOf yX1_highOf, Cond.code yX1_highOf cX1_highOf 2 (some .int)]
def wsX2_repair_r4 : List Cond := [Cond.methodLink RX1 56 yX1_boxMeets, Cond.instanceMethod yX1_boxMeets, Cond.selects RX1 yX1_boxMeets yX1_boxMeets, Cond.code yX1_boxMeets cX1_boxMeets 6 (some .boolean), Cond.methodLink RX1 60 yX1_lineDivides, Cond.instanceMethod yX1_lineDivides, Cond.selects RX1 yX1_lineDivides yX1_lineDivides, Cond.code yX1_lineDivides cX1_lineDivides 6 (some .boolean), Cond.methodLink RX1 64 yX1_sideOf, Cond.instanceMethod yX1_sideOf, Cond.selects RX1 yX1_sideOf yX1_sideOf, Cond.code yX1_sideOf cX1_sideOf 4 (some .int), Cond.methodLink RX1 28 yX1_width, Cond.instanceMethod yX1_width, Cond.selects RX1 yX1_width yX1_width, Cond.code yX1_width cX1_width 2 (some .int), Cond.methodLink RX1 32 yX1_height, Cond.instanceMethod yX1_height, Cond.selects RX1 yX1_height yX1_height, Cond.code yX1_height cX1_height 2 (some .int), Cond.methodLink RX2 169 yX2_isPossible, Cond.instanceMethod yX2_isPossible, Cond.selects RX2 yX2_isPossible yX2_isPossible, Cond.code yX2_isPossible cX2_isPossible 5 (some .boolean)]
def wsX2_repair_r5 : List Cond := [Cond.fieldLink RX2 31 "CableOffice" "agreed" "[Z", Cond.methodLink RX2 96 yX2_pairOf, Cond.static yX2_pairOf, Cond.code yX2_pairOf cX2_pairOf 2 (some .int), Cond.methodLink RX2 207 Lib.Math.min.name, Cond.methodLink RX2 212 Lib.Math.max.name, Cond.methodLink RX2 179 yX2_payGrounds, Cond.instanceMethod yX2_payGrounds, Cond.selects RX2 yX2_payGrounds yX2_payGrounds, Cond.code yX2_payGrounds cX2_payGrounds 5 none, Cond.fieldLink RX2 41 "CableOffice" "groundCount" "I", Cond.fieldLink RX2 37 "CableOffice" "grounds" "[LCableOffice$Ground;", Cond.methodLink RX2 237 yX2_isOwed, Cond.instanceMethod yX2_isOwed, Cond.selects RX2 yX2_isOwed yX2_isOwed, Cond.code yX2_isOwed cX2_isOwed 5 (some .boolean), Cond.instanceMethod yX0_isShutIn, Cond.initialized RX0, Cond.selects RX0 yX0_isShutIn yX0_isShutIn, Cond.code yX0_isShutIn cX0_isShutIn 2 (some .boolean), Cond.fieldLink RX0 22 "CableOffice$Ground" "from" "I", Cond.fieldLink RX0 25 "CableOffice$Ground" "to" "I", Cond.methodLink RX2 241 yX2_isMetByAny, Cond.instanceMethod yX2_isMetByAny]
def wsX2_repair_r6 : List Cond := [Cond.selects RX2 yX2_isMetByAny yX2_isMetByAny, Cond.code yX2_isMetByAny cX2_isMetByAny 6 (some .boolean), Cond.instanceMethod yX1_pieceMeets, Cond.selects RX1 yX1_pieceMeets yX1_pieceMeets, Cond.code yX1_pieceMeets cX1_pieceMeets 3 (some .boolean), Cond.methodLink RX1 85 yX1_lineMeets, Cond.instanceMethod yX1_lineMeets, Cond.selects RX1 yX1_lineMeets yX1_lineMeets, Cond.code yX1_lineMeets cX1_lineMeets 7 (some .boolean), Cond.instanceMethod yX0_price, Cond.selects RX0 yX0_price yX0_price, Cond.code yX0_price cX0_price 1 (some .int), Cond.fieldLink RX0 28 "CableOffice$Ground" "catches" "I", Cond.fieldLink RX0 31 "CableOffice$Ground" "catchSum" "I", Cond.methodLink RX2 173 yX2_costOf, Cond.instanceMethod yX2_costOf, Cond.selects RX2 yX2_costOf yX2_costOf, Cond.code yX2_costOf cX2_costOf 6 (some .int), Cond.methodLink RX2 163 yJ13_bitCount_95d88, Cond.static yJ13_bitCount_95d88, Cond.initialized RJ13, Cond.code yJ13_bitCount_95d88 cJ13_bitCount_95d88 2 (some .int), Cond.constantLong RJ13 314 (6148914691236517205), Cond.constantLong RJ13 316 (3689348814741910323)]
def wsX2_repair_r7 : List Cond := [Cond.constantLong RJ13 318 (1085102592571150095)]
def wsX2_repair : List Cond := .code yX2_repair cX2_repair 6 (some .int) :: ((wsX2_repair_r1 ++ (wsX2_repair_r2 ++ (wsX2_repair_r3 ++ (wsX2_repair_r4 ++ (wsX2_repair_r5 ++ (wsX2_repair_r6 ++ wsX2_repair_r7)))))) ++ wsX20 ++ wsX10 ++ wsX00 ++ (vx_atS RX2 63 "java/lang/IllegalStateException" ["java/lang/RuntimeException", "java/lang/Exception"]).filter goodWord ++ (vx_atS RX2 194 "java/lang/IndexOutOfBoundsException" ["java/lang/RuntimeException", "java/lang/Exception"]).filter goodWord ++ (vx_atS RX2 117 "java/lang/IllegalArgumentException" ["java/lang/RuntimeException", "java/lang/Exception"]).filter goodWord)
def wsX2_paid : List Cond := .code yX2_paid cX2_paid 2 (some .int) :: ([.fieldLink RX2 37 "CableOffice" "grounds" "[LCableOffice$Ground;", .methodLink RX2 131 yX2_demandGround, .instanceMethod yX2_demandGround, .selects RX2 yX2_demandGround yX2_demandGround, .initialized RX2, .code yX2_demandGround cX2_demandGround 2 none, .classLink RX2 190 "java/lang/IndexOutOfBoundsException", .initialized "java/lang/IndexOutOfBoundsException", .fieldLink RX2 41 "CableOffice" "groundCount" "I"] ++ wsX20 ++ wsX00 ++ (vx_atS RX2 194 "java/lang/IndexOutOfBoundsException" ["java/lang/RuntimeException", "java/lang/Exception"]).filter goodWord)
def wsX3_init : List Cond := .code yX3_init cX3_init 1 none :: ([.methodLink RX3 1 objectInit, .instanceMethod objectInit, .code objectInit ⟨#[0xb1]⟩ 1 none, .arrayClass .int, .fieldLink RX3 7 "CableOfficeModel" "draftXs" "[I", .fieldLink RX3 13 "CableOfficeModel" "draftYs" "[I", .fieldLink RX3 16 "CableOfficeModel" "counts" "[I", .fieldLink RX3 19 "CableOfficeModel" "xs" "[I", .fieldLink RX3 22 "CableOfficeModel" "ys" "[I", .arrayClass .boolean, .fieldLink RX3 25 "CableOfficeModel" "areAgreed" "[Z", .fieldLink RX3 29 "CableOfficeModel" "lefts" "[I", .fieldLink RX3 32 "CableOfficeModel" "lows" "[I", .fieldLink RX3 35 "CableOfficeModel" "rights" "[I", .fieldLink RX3 38 "CableOfficeModel" "highs" "[I", .fieldLink RX3 41 "CableOfficeModel" "froms" "[I", .fieldLink RX3 44 "CableOfficeModel" "tos" "[I", .fieldLink RX3 47 "CableOfficeModel" "sums" "[I", .fieldLink RX3 50 "CableOfficeModel" "years" "[I", .fieldLink RX3 53 "CableOfficeModel" "paid" "[I", .fieldLink RX3 56 "CableOfficeModel" "areLifted" "[Z", .fieldLink RX3 59 "CableOfficeModel" "row" "[I"] ++ wsX30)
def wsX3_thrown : List Cond := .code yX3_thrown cX3_thrown 1 (some .int) :: ([.fieldLink RX3 62 "CableOfficeModel" "thrown" "I"] ++ wsX30)
def wsX3_holds : List Cond := .code yX3_holds cX3_holds 2 (some .boolean) :: ([.fieldLink RX3 62 "CableOfficeModel" "thrown" "I"] ++ wsX30)
def wsX3_in : List Cond := .code yX3_in cX3_in 3 (some .boolean) :: ([])
def wsX3_isPlace : List Cond := .code yX3_isPlace cX3_isPlace 2 (some .boolean) :: ([.methodLink RX3 66 yX3_in, .static yX3_in, .initialized RX3, .code yX3_in cX3_in 3 (some .boolean)])
def wsX3_isCable : List Cond := .code yX3_isCable cX3_isCable 2 (some .boolean) :: ([.fieldLink RX3 70 "CableOfficeModel" "cables" "I", .methodLink RX3 66 yX3_in, .static yX3_in, .initialized RX3, .code yX3_in cX3_in 3 (some .boolean)] ++ wsX30)
def wsX3_areCables : List Cond := .code yX3_areCables cX3_areCables 3 (some .boolean) :: ([.methodLink RX3 73 yX3_isCable, .instanceMethod yX3_isCable, .selects RX3 yX3_isCable yX3_isCable, .initialized RX3, .code yX3_isCable cX3_isCable 2 (some .boolean), .fieldLink RX3 70 "CableOfficeModel" "cables" "I", .methodLink RX3 66 yX3_in, .static yX3_in, .code yX3_in cX3_in 3 (some .boolean)] ++ wsX30)
def wsX3_isPoint : List Cond := .code yX3_isPoint cX3_isPoint 3 (some .boolean) :: ([.fieldLink RX3 16 "CableOfficeModel" "counts" "[I", .methodLink RX3 73 yX3_isCable, .instanceMethod yX3_isCable, .selects RX3 yX3_isCable yX3_isCable, .initialized RX3, .code yX3_isCable cX3_isCable 2 (some .boolean), .fieldLink RX3 70 "CableOfficeModel" "cables" "I", .methodLink RX3 66 yX3_in, .static yX3_in, .code yX3_in cX3_in 3 (some .boolean)] ++ wsX30)
def wsX3_isPiece : List Cond := .code yX3_isPiece cX3_isPiece 3 (some .boolean) :: ([.fieldLink RX3 16 "CableOfficeModel" "counts" "[I", .methodLink RX3 73 yX3_isCable, .instanceMethod yX3_isCable, .selects RX3 yX3_isCable yX3_isCable, .initialized RX3, .code yX3_isCable cX3_isCable 2 (some .boolean), .fieldLink RX3 70 "CableOfficeModel" "cables" "I", .methodLink RX3 66 yX3_in, .static yX3_in, .code yX3_in cX3_in 3 (some .boolean)] ++ wsX30)
def wsX3_draft : List Cond := .code yX3_draft cX3_draft 4 (some .int) :: ([.fieldLink RX3 77 "CableOfficeModel" "drafted" "I", .fieldLink RX3 7 "CableOfficeModel" "draftXs" "[I", .fieldLink RX3 13 "CableOfficeModel" "draftYs" "[I", .methodLink RX3 80 yX3_isPlace, .static yX3_isPlace, .initialized RX3, .code yX3_isPlace cX3_isPlace 2 (some .boolean), .methodLink RX3 66 yX3_in, .static yX3_in, .code yX3_in cX3_in 3 (some .boolean), .methodLink RX3 84 yX3_holds, .instanceMethod yX3_holds, .selects RX3 yX3_holds yX3_holds, .code yX3_holds cX3_holds 2 (some .boolean), .fieldLink RX3 62 "CableOfficeModel" "thrown" "I"] ++ wsX30)
def wsX3_lay : List Cond := .code yX3_lay cX3_lay 2 (some .int) :: ([.fieldLink RX3 77 "CableOfficeModel" "drafted" "I", .fieldLink RX3 70 "CableOfficeModel" "cables" "I", .fieldLink RX3 19 "CableOfficeModel" "xs" "[I", .fieldLink RX3 7 "CableOfficeModel" "draftXs" "[I", .fieldLink RX3 22 "CableOfficeModel" "ys" "[I", .fieldLink RX3 13 "CableOfficeModel" "draftYs" "[I", .fieldLink RX3 16 "CableOfficeModel" "counts" "[I", .methodLink RX3 84 yX3_holds, .instanceMethod yX3_holds, .selects RX3 yX3_holds yX3_holds, .initialized RX3, .code yX3_holds cX3_holds 2 (some .boolean), .fieldLink RX3 62 "CableOfficeModel" "thrown" "I"] ++ wsX30)
def wsX3_side : List Cond := .code yX3_side cX3_side 7 (some .int) :: ([])
def wsX3_isBetween : List Cond := .code yX3_isBetween cX3_isBetween 7 (some .boolean) :: ([.methodLink RX3 66 yX3_in, .static yX3_in, .initialized RX3, .code yX3_in cX3_in 3 (some .boolean)])
def wsX3_meets : List Cond := .code yX3_meets cX3_meets 16 (some .boolean) :: ([.fieldLink RX3 19 "CableOfficeModel" "xs" "[I", .fieldLink RX3 22 "CableOfficeModel" "ys" "[I", .methodLink RX3 87 yX3_side, .static yX3_side, .initialized RX3, .code yX3_side cX3_side 7 (some .int), .methodLink RX3 91 yX3_isBetween, .static yX3_isBetween, .code yX3_isBetween cX3_isBetween 7 (some .boolean), .methodLink RX3 66 yX3_in, .static yX3_in, .code yX3_in cX3_in 3 (some .boolean)] ++ wsX30)
def wsX3_doCross : List Cond := .code yX3_doCross cX3_doCross 3 (some .boolean) :: ([.fieldLink RX3 19 "CableOfficeModel" "xs" "[I", .fieldLink RX3 22 "CableOfficeModel" "ys" "[I", .methodLink RX3 95 yX3_meets, .instanceMethod yX3_meets, .selects RX3 yX3_meets yX3_meets, .initialized RX3, .code yX3_meets cX3_meets 16 (some .boolean), .methodLink RX3 87 yX3_side, .static yX3_side, .code yX3_side cX3_side 7 (some .int), .methodLink RX3 91 yX3_isBetween, .static yX3_isBetween, .code yX3_isBetween cX3_isBetween 7 (some .boolean), .methodLink RX3 66 yX3_in, .static yX3_in, .code yX3_in cX3_in 3 (some .boolean)] ++ wsX30)
def wsX3_isSteep : List Cond := .code yX3_isSteep cX3_isSteep 9 (some .boolean) :: ([.fieldLink RX3 19 "CableOfficeModel" "xs" "[I", .fieldLink RX3 22 "CableOfficeModel" "ys" "[I"] ++ wsX30)
def wsX3_crossed : List Cond := .code yX3_crossed cX3_crossed 6 (some .int) :: ([.fieldLink RX3 16 "CableOfficeModel" "counts" "[I", .methodLink RX3 99 yX3_doCross, .instanceMethod yX3_doCross, .selects RX3 yX3_doCross yX3_doCross, .initialized RX3, .code yX3_doCross cX3_doCross 3 (some .boolean), .fieldLink RX3 19 "CableOfficeModel" "xs" "[I", .fieldLink RX3 22 "CableOfficeModel" "ys" "[I", .methodLink RX3 95 yX3_meets, .instanceMethod yX3_meets, .selects RX3 yX3_meets yX3_meets, .code yX3_meets cX3_meets 16 (some .boolean), .methodLink RX3 87 yX3_side, .static yX3_side, .code yX3_side cX3_side 7 (some .int), .methodLink RX3 91 yX3_isBetween, .static yX3_isBetween, .code yX3_isBetween cX3_isBetween 7 (some .boolean), .methodLink RX3 66 yX3_in, .static yX3_in, .code yX3_in cX3_in 3 (some .boolean)] ++ wsX30)
def wsX3_isWellNow_r1 : List Cond := [Cond.fieldLink RX3 16 "CableOfficeModel" "counts" "[I", Cond.methodLink RX3 99 yX3_doCross, Cond.instanceMethod yX3_doCross, Cond.selects RX3 yX3_doCross yX3_doCross, Cond.initialized RX3, Cond.code yX3_doCross cX3_doCross 3 (some .boolean), Cond.fieldLink RX3 19 "CableOfficeModel" "xs" "[I", Cond.fieldLink RX3 22 "CableOfficeModel" "ys" "[I", Cond.methodLink RX3 95 yX3_meets, Cond.instanceMethod yX3_meets, Cond.selects RX3 yX3_meets yX3_meets, Cond.code yX3_meets cX3_meets 16 (some .boolean), Cond.methodLink RX3 87 yX3_side, Cond.static yX3_side, Cond.code yX3_side cX3_side 7 (some .int), Cond.methodLink RX3 91 yX3_isBetween, Cond.static yX3_isBetween, Cond.code yX3_isBetween cX3_isBetween 7 (some .boolean), Cond.methodLink RX3 66 yX3_in, Cond.static yX3_in, Cond.code yX3_in cX3_in 3 (some .boolean), Cond.methodLink RX3 102 yX3_isSteep, Cond.instanceMethod yX3_isSteep, Cond.selects RX3 yX3_isSteep yX3_isSteep]
def wsX3_isWellNow_r2 : List Cond := [Cond.code yX3_isSteep cX3_isSteep 9 (some .boolean), Cond.methodLink RX3 105 yX3_crossed, Cond.instanceMethod yX3_crossed, Cond.selects RX3 yX3_crossed yX3_crossed, Cond.code yX3_crossed cX3_crossed 6 (some .int)]
def wsX3_isWellNow : List Cond := .code yX3_isWellNow cX3_isWellNow 8 (some .boolean) :: ((wsX3_isWellNow_r1 ++ wsX3_isWellNow_r2) ++ wsX30)
def wsX3_errorOfMove : List Cond := .code yX3_errorOfMove cX3_errorOfMove 8 (some .int) :: ([.fieldLink RX3 19 "CableOfficeModel" "xs" "[I", .fieldLink RX3 22 "CableOfficeModel" "ys" "[I", .fieldLink RX3 16 "CableOfficeModel" "counts" "[I", .methodLink RX3 109 yX3_isPoint, .instanceMethod yX3_isPoint, .selects RX3 yX3_isPoint yX3_isPoint, .initialized RX3, .code yX3_isPoint cX3_isPoint 3 (some .boolean), .methodLink RX3 73 yX3_isCable, .instanceMethod yX3_isCable, .selects RX3 yX3_isCable yX3_isCable, .code yX3_isCable cX3_isCable 2 (some .boolean), .fieldLink RX3 70 "CableOfficeModel" "cables" "I", .methodLink RX3 66 yX3_in, .static yX3_in, .code yX3_in cX3_in 3 (some .boolean), .methodLink RX3 80 yX3_isPlace, .static yX3_isPlace, .code yX3_isPlace cX3_isPlace 2 (some .boolean)] ++ wsX30)
def wsX3_agrees : List Cond := .code yX3_agrees cX3_agrees 4 none :: ([.fieldLink RX3 25 "CableOfficeModel" "areAgreed" "[Z"] ++ wsX30)
def wsX3_move_r1 : List Cond := [Cond.fieldLink RX3 19 "CableOfficeModel" "xs" "[I", Cond.fieldLink RX3 22 "CableOfficeModel" "ys" "[I", Cond.fieldLink RX3 70 "CableOfficeModel" "cables" "I", Cond.fieldLink RX3 25 "CableOfficeModel" "areAgreed" "[Z", Cond.methodLink RX3 112 yX3_errorOfMove, Cond.instanceMethod yX3_errorOfMove, Cond.selects RX3 yX3_errorOfMove yX3_errorOfMove, Cond.initialized RX3, Cond.code yX3_errorOfMove cX3_errorOfMove 8 (some .int), Cond.fieldLink RX3 16 "CableOfficeModel" "counts" "[I", Cond.methodLink RX3 109 yX3_isPoint, Cond.instanceMethod yX3_isPoint, Cond.selects RX3 yX3_isPoint yX3_isPoint, Cond.code yX3_isPoint cX3_isPoint 3 (some .boolean), Cond.methodLink RX3 73 yX3_isCable, Cond.instanceMethod yX3_isCable, Cond.selects RX3 yX3_isCable yX3_isCable, Cond.code yX3_isCable cX3_isCable 2 (some .boolean), Cond.methodLink RX3 66 yX3_in, Cond.static yX3_in, Cond.code yX3_in cX3_in 3 (some .boolean), Cond.methodLink RX3 80 yX3_isPlace, Cond.static yX3_isPlace, Cond.code yX3_isPlace cX3_isPlace 2 (some .boolean)]
def wsX3_move_r2 : List Cond := [Cond.methodLink RX3 84 yX3_holds, Cond.instanceMethod yX3_holds, Cond.selects RX3 yX3_holds yX3_holds, Cond.code yX3_holds cX3_holds 2 (some .boolean), Cond.fieldLink RX3 62 "CableOfficeModel" "thrown" "I", Cond.methodLink RX3 116 yX3_isWellNow, Cond.instanceMethod yX3_isWellNow, Cond.selects RX3 yX3_isWellNow yX3_isWellNow, Cond.code yX3_isWellNow cX3_isWellNow 8 (some .boolean), Cond.methodLink RX3 99 yX3_doCross, Cond.instanceMethod yX3_doCross, Cond.selects RX3 yX3_doCross yX3_doCross, Cond.code yX3_doCross cX3_doCross 3 (some .boolean), Cond.methodLink RX3 95 yX3_meets, Cond.instanceMethod yX3_meets, Cond.selects RX3 yX3_meets yX3_meets, Cond.code yX3_meets cX3_meets 16 (some .boolean), Cond.methodLink RX3 87 yX3_side, Cond.static yX3_side, Cond.code yX3_side cX3_side 7 (some .int), Cond.methodLink RX3 91 yX3_isBetween, Cond.static yX3_isBetween, Cond.code yX3_isBetween cX3_isBetween 7 (some .boolean), Cond.methodLink RX3 102 yX3_isSteep]
def wsX3_move_r3 : List Cond := [Cond.instanceMethod yX3_isSteep, Cond.selects RX3 yX3_isSteep yX3_isSteep, Cond.code yX3_isSteep cX3_isSteep 9 (some .boolean), Cond.methodLink RX3 105 yX3_crossed, Cond.instanceMethod yX3_crossed, Cond.selects RX3 yX3_crossed yX3_crossed, Cond.code yX3_crossed cX3_crossed 6 (some .int), Cond.methodLink RX3 119 yX3_agrees, Cond.instanceMethod yX3_agrees, Cond.selects RX3 yX3_agrees yX3_agrees, Cond.code yX3_agrees cX3_agrees 4 none]
def wsX3_move : List Cond := .code yX3_move cX3_move 7 (some .int) :: ((wsX3_move_r1 ++ (wsX3_move_r2 ++ wsX3_move_r3)) ++ wsX30)
def wsX3_cables : List Cond := .code yX3_cables cX3_cables 1 (some .int) :: ([.fieldLink RX3 62 "CableOfficeModel" "thrown" "I", .fieldLink RX3 70 "CableOfficeModel" "cables" "I"] ++ wsX30)
def wsX3_point : List Cond := .code yX3_point cX3_point 3 (some .int) :: ([.fieldLink RX3 19 "CableOfficeModel" "xs" "[I", .fieldLink RX3 22 "CableOfficeModel" "ys" "[I", .methodLink RX3 109 yX3_isPoint, .instanceMethod yX3_isPoint, .selects RX3 yX3_isPoint yX3_isPoint, .initialized RX3, .code yX3_isPoint cX3_isPoint 3 (some .boolean), .fieldLink RX3 16 "CableOfficeModel" "counts" "[I", .methodLink RX3 73 yX3_isCable, .instanceMethod yX3_isCable, .selects RX3 yX3_isCable yX3_isCable, .code yX3_isCable cX3_isCable 2 (some .boolean), .fieldLink RX3 70 "CableOfficeModel" "cables" "I", .methodLink RX3 66 yX3_in, .static yX3_in, .code yX3_in cX3_in 3 (some .boolean), .methodLink RX3 84 yX3_holds, .instanceMethod yX3_holds, .selects RX3 yX3_holds yX3_holds, .code yX3_holds cX3_holds 2 (some .boolean), .fieldLink RX3 62 "CableOfficeModel" "thrown" "I"] ++ wsX30)
def wsX3_crossings_r1 : List Cond := [Cond.methodLink RX3 123 yX3_areCables, Cond.instanceMethod yX3_areCables, Cond.selects RX3 yX3_areCables yX3_areCables, Cond.initialized RX3, Cond.code yX3_areCables cX3_areCables 3 (some .boolean), Cond.methodLink RX3 73 yX3_isCable, Cond.instanceMethod yX3_isCable, Cond.selects RX3 yX3_isCable yX3_isCable, Cond.code yX3_isCable cX3_isCable 2 (some .boolean), Cond.fieldLink RX3 70 "CableOfficeModel" "cables" "I", Cond.methodLink RX3 66 yX3_in, Cond.static yX3_in, Cond.code yX3_in cX3_in 3 (some .boolean), Cond.methodLink RX3 84 yX3_holds, Cond.instanceMethod yX3_holds, Cond.selects RX3 yX3_holds yX3_holds, Cond.code yX3_holds cX3_holds 2 (some .boolean), Cond.fieldLink RX3 62 "CableOfficeModel" "thrown" "I", Cond.methodLink RX3 105 yX3_crossed, Cond.instanceMethod yX3_crossed, Cond.selects RX3 yX3_crossed yX3_crossed, Cond.code yX3_crossed cX3_crossed 6 (some .int), Cond.fieldLink RX3 16 "CableOfficeModel" "counts" "[I", Cond.methodLink RX3 99 yX3_doCross]
def wsX3_crossings_r2 : List Cond := [Cond.instanceMethod yX3_doCross, Cond.selects RX3 yX3_doCross yX3_doCross, Cond.code yX3_doCross cX3_doCross 3 (some .boolean), Cond.fieldLink RX3 19 "CableOfficeModel" "xs" "[I", Cond.fieldLink RX3 22 "CableOfficeModel" "ys" "[I", Cond.methodLink RX3 95 yX3_meets, Cond.instanceMethod yX3_meets, Cond.selects RX3 yX3_meets yX3_meets, Cond.code yX3_meets cX3_meets 16 (some .boolean), Cond.methodLink RX3 87 yX3_side, Cond.static yX3_side, Cond.code yX3_side cX3_side 7 (some .int), Cond.methodLink RX3 91 yX3_isBetween, Cond.static yX3_isBetween, Cond.code yX3_isBetween cX3_isBetween 7 (some .boolean)]
def wsX3_crossings : List Cond := .code yX3_crossings cX3_crossings 3 (some .int) :: ((wsX3_crossings_r1 ++ wsX3_crossings_r2) ++ wsX30)
def wsX3_crossingsAnew_r1 : List Cond := [Cond.methodLink RX3 123 yX3_areCables, Cond.instanceMethod yX3_areCables, Cond.selects RX3 yX3_areCables yX3_areCables, Cond.initialized RX3, Cond.code yX3_areCables cX3_areCables 3 (some .boolean), Cond.methodLink RX3 73 yX3_isCable, Cond.instanceMethod yX3_isCable, Cond.selects RX3 yX3_isCable yX3_isCable, Cond.code yX3_isCable cX3_isCable 2 (some .boolean), Cond.fieldLink RX3 70 "CableOfficeModel" "cables" "I", Cond.methodLink RX3 66 yX3_in, Cond.static yX3_in, Cond.code yX3_in cX3_in 3 (some .boolean), Cond.methodLink RX3 84 yX3_holds, Cond.instanceMethod yX3_holds, Cond.selects RX3 yX3_holds yX3_holds, Cond.code yX3_holds cX3_holds 2 (some .boolean), Cond.fieldLink RX3 62 "CableOfficeModel" "thrown" "I", Cond.methodLink RX3 105 yX3_crossed, Cond.instanceMethod yX3_crossed, Cond.selects RX3 yX3_crossed yX3_crossed, Cond.code yX3_crossed cX3_crossed 6 (some .int), Cond.fieldLink RX3 16 "CableOfficeModel" "counts" "[I", Cond.methodLink RX3 99 yX3_doCross]
def wsX3_crossingsAnew_r2 : List Cond := [Cond.instanceMethod yX3_doCross, Cond.selects RX3 yX3_doCross yX3_doCross, Cond.code yX3_doCross cX3_doCross 3 (some .boolean), Cond.fieldLink RX3 19 "CableOfficeModel" "xs" "[I", Cond.fieldLink RX3 22 "CableOfficeModel" "ys" "[I", Cond.methodLink RX3 95 yX3_meets, Cond.instanceMethod yX3_meets, Cond.selects RX3 yX3_meets yX3_meets, Cond.code yX3_meets cX3_meets 16 (some .boolean), Cond.methodLink RX3 87 yX3_side, Cond.static yX3_side, Cond.code yX3_side cX3_side 7 (some .int), Cond.methodLink RX3 91 yX3_isBetween, Cond.static yX3_isBetween, Cond.code yX3_isBetween cX3_isBetween 7 (some .boolean)]
def wsX3_crossingsAnew : List Cond := .code yX3_crossingsAnew cX3_crossingsAnew 3 (some .int) :: ((wsX3_crossingsAnew_r1 ++ wsX3_crossingsAnew_r2) ++ wsX30)
def wsX3_isWell_r1 : List Cond := [Cond.methodLink RX3 123 yX3_areCables, Cond.instanceMethod yX3_areCables, Cond.selects RX3 yX3_areCables yX3_areCables, Cond.initialized RX3, Cond.code yX3_areCables cX3_areCables 3 (some .boolean), Cond.methodLink RX3 73 yX3_isCable, Cond.instanceMethod yX3_isCable, Cond.selects RX3 yX3_isCable yX3_isCable, Cond.code yX3_isCable cX3_isCable 2 (some .boolean), Cond.fieldLink RX3 70 "CableOfficeModel" "cables" "I", Cond.methodLink RX3 66 yX3_in, Cond.static yX3_in, Cond.code yX3_in cX3_in 3 (some .boolean), Cond.methodLink RX3 84 yX3_holds, Cond.instanceMethod yX3_holds, Cond.selects RX3 yX3_holds yX3_holds, Cond.code yX3_holds cX3_holds 2 (some .boolean), Cond.fieldLink RX3 62 "CableOfficeModel" "thrown" "I", Cond.methodLink RX3 116 yX3_isWellNow, Cond.instanceMethod yX3_isWellNow, Cond.selects RX3 yX3_isWellNow yX3_isWellNow, Cond.code yX3_isWellNow cX3_isWellNow 8 (some .boolean), Cond.fieldLink RX3 16 "CableOfficeModel" "counts" "[I", Cond.methodLink RX3 99 yX3_doCross]
def wsX3_isWell_r2 : List Cond := [Cond.instanceMethod yX3_doCross, Cond.selects RX3 yX3_doCross yX3_doCross, Cond.code yX3_doCross cX3_doCross 3 (some .boolean), Cond.fieldLink RX3 19 "CableOfficeModel" "xs" "[I", Cond.fieldLink RX3 22 "CableOfficeModel" "ys" "[I", Cond.methodLink RX3 95 yX3_meets, Cond.instanceMethod yX3_meets, Cond.selects RX3 yX3_meets yX3_meets, Cond.code yX3_meets cX3_meets 16 (some .boolean), Cond.methodLink RX3 87 yX3_side, Cond.static yX3_side, Cond.code yX3_side cX3_side 7 (some .int), Cond.methodLink RX3 91 yX3_isBetween, Cond.static yX3_isBetween, Cond.code yX3_isBetween cX3_isBetween 7 (some .boolean), Cond.methodLink RX3 102 yX3_isSteep, Cond.instanceMethod yX3_isSteep, Cond.selects RX3 yX3_isSteep yX3_isSteep, Cond.code yX3_isSteep cX3_isSteep 9 (some .boolean), Cond.methodLink RX3 105 yX3_crossed, Cond.instanceMethod yX3_crossed, Cond.selects RX3 yX3_crossed yX3_crossed, Cond.code yX3_crossed cX3_crossed 6 (some .int)]
def wsX3_isWell : List Cond := .code yX3_isWell cX3_isWell 3 (some .boolean) :: ((wsX3_isWell_r1 ++ wsX3_isWell_r2) ++ wsX30)
def wsX3_isBare_r1 : List Cond := [Cond.fieldLink RX3 25 "CableOfficeModel" "areAgreed" "[Z", Cond.methodLink RX3 105 yX3_crossed, Cond.instanceMethod yX3_crossed, Cond.selects RX3 yX3_crossed yX3_crossed, Cond.initialized RX3, Cond.code yX3_crossed cX3_crossed 6 (some .int), Cond.fieldLink RX3 16 "CableOfficeModel" "counts" "[I", Cond.methodLink RX3 99 yX3_doCross, Cond.instanceMethod yX3_doCross, Cond.selects RX3 yX3_doCross yX3_doCross, Cond.code yX3_doCross cX3_doCross 3 (some .boolean), Cond.fieldLink RX3 19 "CableOfficeModel" "xs" "[I", Cond.fieldLink RX3 22 "CableOfficeModel" "ys" "[I", Cond.methodLink RX3 95 yX3_meets, Cond.instanceMethod yX3_meets, Cond.selects RX3 yX3_meets yX3_meets, Cond.code yX3_meets cX3_meets 16 (some .boolean), Cond.methodLink RX3 87 yX3_side, Cond.static yX3_side, Cond.code yX3_side cX3_side 7 (some .int), Cond.methodLink RX3 91 yX3_isBetween, Cond.static yX3_isBetween, Cond.code yX3_isBetween cX3_isBetween 7 (some .boolean), Cond.methodLink RX3 66 yX3_in]
def wsX3_isBare_r2 : List Cond := [Cond.static yX3_in, Cond.code yX3_in cX3_in 3 (some .boolean)]
def wsX3_isBare : List Cond := .code yX3_isBare cX3_isBare 3 (some .boolean) :: ((wsX3_isBare_r1 ++ wsX3_isBare_r2) ++ wsX30)
def wsX3_bareNow_r1 : List Cond := [Cond.fieldLink RX3 70 "CableOfficeModel" "cables" "I", Cond.methodLink RX3 126 yX3_isBare, Cond.instanceMethod yX3_isBare, Cond.selects RX3 yX3_isBare yX3_isBare, Cond.initialized RX3, Cond.code yX3_isBare cX3_isBare 3 (some .boolean), Cond.fieldLink RX3 25 "CableOfficeModel" "areAgreed" "[Z", Cond.methodLink RX3 105 yX3_crossed, Cond.instanceMethod yX3_crossed, Cond.selects RX3 yX3_crossed yX3_crossed, Cond.code yX3_crossed cX3_crossed 6 (some .int), Cond.fieldLink RX3 16 "CableOfficeModel" "counts" "[I", Cond.methodLink RX3 99 yX3_doCross, Cond.instanceMethod yX3_doCross, Cond.selects RX3 yX3_doCross yX3_doCross, Cond.code yX3_doCross cX3_doCross 3 (some .boolean), Cond.fieldLink RX3 19 "CableOfficeModel" "xs" "[I", Cond.fieldLink RX3 22 "CableOfficeModel" "ys" "[I", Cond.methodLink RX3 95 yX3_meets, Cond.instanceMethod yX3_meets, Cond.selects RX3 yX3_meets yX3_meets, Cond.code yX3_meets cX3_meets 16 (some .boolean), Cond.methodLink RX3 87 yX3_side, Cond.static yX3_side]
def wsX3_bareNow_r2 : List Cond := [Cond.code yX3_side cX3_side 7 (some .int), Cond.methodLink RX3 91 yX3_isBetween, Cond.static yX3_isBetween, Cond.code yX3_isBetween cX3_isBetween 7 (some .boolean), Cond.methodLink RX3 66 yX3_in, Cond.static yX3_in, Cond.code yX3_in cX3_in 3 (some .boolean)]
def wsX3_bareNow : List Cond := .code yX3_bareNow cX3_bareNow 3 (some .int) :: ((wsX3_bareNow_r1 ++ wsX3_bareNow_r2) ++ wsX30)
def wsX3_agree_r1 : List Cond := [Cond.fieldLink RX3 25 "CableOfficeModel" "areAgreed" "[Z", Cond.methodLink RX3 123 yX3_areCables, Cond.instanceMethod yX3_areCables, Cond.selects RX3 yX3_areCables yX3_areCables, Cond.initialized RX3, Cond.code yX3_areCables cX3_areCables 3 (some .boolean), Cond.methodLink RX3 73 yX3_isCable, Cond.instanceMethod yX3_isCable, Cond.selects RX3 yX3_isCable yX3_isCable, Cond.code yX3_isCable cX3_isCable 2 (some .boolean), Cond.fieldLink RX3 70 "CableOfficeModel" "cables" "I", Cond.methodLink RX3 66 yX3_in, Cond.static yX3_in, Cond.code yX3_in cX3_in 3 (some .boolean), Cond.methodLink RX3 116 yX3_isWellNow, Cond.instanceMethod yX3_isWellNow, Cond.selects RX3 yX3_isWellNow yX3_isWellNow, Cond.code yX3_isWellNow cX3_isWellNow 8 (some .boolean), Cond.fieldLink RX3 16 "CableOfficeModel" "counts" "[I", Cond.methodLink RX3 99 yX3_doCross, Cond.instanceMethod yX3_doCross, Cond.selects RX3 yX3_doCross yX3_doCross, Cond.code yX3_doCross cX3_doCross 3 (some .boolean), Cond.fieldLink RX3 19 "CableOfficeModel" "xs" "[I"]
def wsX3_agree_r2 : List Cond := [Cond.fieldLink RX3 22 "CableOfficeModel" "ys" "[I", Cond.methodLink RX3 95 yX3_meets, Cond.instanceMethod yX3_meets, Cond.selects RX3 yX3_meets yX3_meets, Cond.code yX3_meets cX3_meets 16 (some .boolean), Cond.methodLink RX3 87 yX3_side, Cond.static yX3_side, Cond.code yX3_side cX3_side 7 (some .int), Cond.methodLink RX3 91 yX3_isBetween, Cond.static yX3_isBetween, Cond.code yX3_isBetween cX3_isBetween 7 (some .boolean), Cond.methodLink RX3 102 yX3_isSteep, Cond.instanceMethod yX3_isSteep, Cond.selects RX3 yX3_isSteep yX3_isSteep, Cond.code yX3_isSteep cX3_isSteep 9 (some .boolean), Cond.methodLink RX3 105 yX3_crossed, Cond.instanceMethod yX3_crossed, Cond.selects RX3 yX3_crossed yX3_crossed, Cond.code yX3_crossed cX3_crossed 6 (some .int), Cond.methodLink RX3 84 yX3_holds, Cond.instanceMethod yX3_holds, Cond.selects RX3 yX3_holds yX3_holds, Cond.code yX3_holds cX3_holds 2 (some .boolean), Cond.fieldLink RX3 62 "CableOfficeModel" "thrown" "I"]
def wsX3_agree_r3 : List Cond := [Cond.methodLink RX3 119 yX3_agrees, Cond.instanceMethod yX3_agrees, Cond.selects RX3 yX3_agrees yX3_agrees, Cond.code yX3_agrees cX3_agrees 4 none, Cond.methodLink RX3 129 yX3_bareNow, Cond.instanceMethod yX3_bareNow, Cond.selects RX3 yX3_bareNow yX3_bareNow, Cond.code yX3_bareNow cX3_bareNow 3 (some .int), Cond.methodLink RX3 126 yX3_isBare, Cond.instanceMethod yX3_isBare, Cond.selects RX3 yX3_isBare yX3_isBare, Cond.code yX3_isBare cX3_isBare 3 (some .boolean)]
def wsX3_agree : List Cond := .code yX3_agree cX3_agree 5 (some .int) :: ((wsX3_agree_r1 ++ (wsX3_agree_r2 ++ wsX3_agree_r3)) ++ wsX30)
def wsX3_isAgreed : List Cond := .code yX3_isAgreed cX3_isAgreed 3 (some .boolean) :: ([.fieldLink RX3 25 "CableOfficeModel" "areAgreed" "[Z", .methodLink RX3 123 yX3_areCables, .instanceMethod yX3_areCables, .selects RX3 yX3_areCables yX3_areCables, .initialized RX3, .code yX3_areCables cX3_areCables 3 (some .boolean), .methodLink RX3 73 yX3_isCable, .instanceMethod yX3_isCable, .selects RX3 yX3_isCable yX3_isCable, .code yX3_isCable cX3_isCable 2 (some .boolean), .fieldLink RX3 70 "CableOfficeModel" "cables" "I", .methodLink RX3 66 yX3_in, .static yX3_in, .code yX3_in cX3_in 3 (some .boolean), .methodLink RX3 84 yX3_holds, .instanceMethod yX3_holds, .selects RX3 yX3_holds yX3_holds, .code yX3_holds cX3_holds 2 (some .boolean), .fieldLink RX3 62 "CableOfficeModel" "thrown" "I"] ++ wsX30)
def wsX3_bare_r1 : List Cond := [Cond.fieldLink RX3 62 "CableOfficeModel" "thrown" "I", Cond.methodLink RX3 129 yX3_bareNow, Cond.instanceMethod yX3_bareNow, Cond.selects RX3 yX3_bareNow yX3_bareNow, Cond.initialized RX3, Cond.code yX3_bareNow cX3_bareNow 3 (some .int), Cond.fieldLink RX3 70 "CableOfficeModel" "cables" "I", Cond.methodLink RX3 126 yX3_isBare, Cond.instanceMethod yX3_isBare, Cond.selects RX3 yX3_isBare yX3_isBare, Cond.code yX3_isBare cX3_isBare 3 (some .boolean), Cond.fieldLink RX3 25 "CableOfficeModel" "areAgreed" "[Z", Cond.methodLink RX3 105 yX3_crossed, Cond.instanceMethod yX3_crossed, Cond.selects RX3 yX3_crossed yX3_crossed, Cond.code yX3_crossed cX3_crossed 6 (some .int), Cond.fieldLink RX3 16 "CableOfficeModel" "counts" "[I", Cond.methodLink RX3 99 yX3_doCross, Cond.instanceMethod yX3_doCross, Cond.selects RX3 yX3_doCross yX3_doCross, Cond.code yX3_doCross cX3_doCross 3 (some .boolean), Cond.fieldLink RX3 19 "CableOfficeModel" "xs" "[I", Cond.fieldLink RX3 22 "CableOfficeModel" "ys" "[I", Cond.methodLink RX3 95 yX3_meets]
def wsX3_bare_r2 : List Cond := [Cond.instanceMethod yX3_meets, Cond.selects RX3 yX3_meets yX3_meets, Cond.code yX3_meets cX3_meets 16 (some .boolean), Cond.methodLink RX3 87 yX3_side, Cond.static yX3_side, Cond.code yX3_side cX3_side 7 (some .int), Cond.methodLink RX3 91 yX3_isBetween, Cond.static yX3_isBetween, Cond.code yX3_isBetween cX3_isBetween 7 (some .boolean), Cond.methodLink RX3 66 yX3_in, Cond.static yX3_in, Cond.code yX3_in cX3_in 3 (some .boolean)]
def wsX3_bare : List Cond := .code yX3_bare cX3_bare 1 (some .int) :: ((wsX3_bare_r1 ++ wsX3_bare_r2) ++ wsX30)
def wsX3_isGround : List Cond := .code yX3_isGround cX3_isGround 2 (some .boolean) :: ([.fieldLink RX3 133 "CableOfficeModel" "grounds" "I", .methodLink RX3 66 yX3_in, .static yX3_in, .initialized RX3, .code yX3_in cX3_in 3 (some .boolean)] ++ wsX30)
def wsX3_isMonth : List Cond := .code yX3_isMonth cX3_isMonth 1 (some .boolean) :: ([.methodLink RX3 66 yX3_in, .static yX3_in, .initialized RX3, .code yX3_in cX3_in 3 (some .boolean)])
def wsX3_ground : List Cond := .code yX3_ground cX3_ground 8 (some .int) :: ([.fieldLink RX3 133 "CableOfficeModel" "grounds" "I", .fieldLink RX3 29 "CableOfficeModel" "lefts" "[I", .fieldLink RX3 32 "CableOfficeModel" "lows" "[I", .fieldLink RX3 35 "CableOfficeModel" "rights" "[I", .fieldLink RX3 38 "CableOfficeModel" "highs" "[I", .fieldLink RX3 41 "CableOfficeModel" "froms" "[I", .fieldLink RX3 44 "CableOfficeModel" "tos" "[I", .methodLink RX3 80 yX3_isPlace, .static yX3_isPlace, .initialized RX3, .code yX3_isPlace cX3_isPlace 2 (some .boolean), .methodLink RX3 66 yX3_in, .static yX3_in, .code yX3_in cX3_in 3 (some .boolean), .methodLink RX3 136 yX3_isMonth, .static yX3_isMonth, .code yX3_isMonth cX3_isMonth 1 (some .boolean), .methodLink RX3 84 yX3_holds, .instanceMethod yX3_holds, .selects RX3 yX3_holds yX3_holds, .code yX3_holds cX3_holds 2 (some .boolean), .fieldLink RX3 62 "CableOfficeModel" "thrown" "I"] ++ wsX30)
def wsX3_price : List Cond := .code yX3_price cX3_price 2 (some .int) :: ([.fieldLink RX3 50 "CableOfficeModel" "years" "[I", .fieldLink RX3 47 "CableOfficeModel" "sums" "[I"] ++ wsX30)
def wsX3_tell : List Cond := .code yX3_tell cX3_tell 4 (some .int) :: ([.constant RX3 142 (1000000), .fieldLink RX3 50 "CableOfficeModel" "years" "[I", .fieldLink RX3 47 "CableOfficeModel" "sums" "[I", .methodLink RX3 139 yX3_isGround, .instanceMethod yX3_isGround, .selects RX3 yX3_isGround yX3_isGround, .initialized RX3, .code yX3_isGround cX3_isGround 2 (some .boolean), .fieldLink RX3 133 "CableOfficeModel" "grounds" "I", .methodLink RX3 66 yX3_in, .static yX3_in, .code yX3_in cX3_in 3 (some .boolean), .methodLink RX3 84 yX3_holds, .instanceMethod yX3_holds, .selects RX3 yX3_holds yX3_holds, .code yX3_holds cX3_holds 2 (some .boolean), .fieldLink RX3 62 "CableOfficeModel" "thrown" "I", .methodLink RX3 143 yX3_price, .instanceMethod yX3_price, .selects RX3 yX3_price yX3_price, .code yX3_price cX3_price 2 (some .int)] ++ wsX30)
def wsX3_isClosedNow : List Cond := .code yX3_isClosedNow cX3_isClosedNow 5 (some .boolean) :: ([.fieldLink RX3 41 "CableOfficeModel" "froms" "[I", .fieldLink RX3 44 "CableOfficeModel" "tos" "[I", .methodLink RX3 66 yX3_in, .static yX3_in, .initialized RX3, .code yX3_in cX3_in 3 (some .boolean)] ++ wsX30)
def wsX3_isClosed : List Cond := .code yX3_isClosed cX3_isClosed 3 (some .boolean) :: ([.methodLink RX3 139 yX3_isGround, .instanceMethod yX3_isGround, .selects RX3 yX3_isGround yX3_isGround, .initialized RX3, .code yX3_isGround cX3_isGround 2 (some .boolean), .fieldLink RX3 133 "CableOfficeModel" "grounds" "I", .methodLink RX3 66 yX3_in, .static yX3_in, .code yX3_in cX3_in 3 (some .boolean), .methodLink RX3 136 yX3_isMonth, .static yX3_isMonth, .code yX3_isMonth cX3_isMonth 1 (some .boolean), .methodLink RX3 84 yX3_holds, .instanceMethod yX3_holds, .selects RX3 yX3_holds yX3_holds, .code yX3_holds cX3_holds 2 (some .boolean), .fieldLink RX3 62 "CableOfficeModel" "thrown" "I", .methodLink RX3 147 yX3_isClosedNow, .instanceMethod yX3_isClosedNow, .selects RX3 yX3_isClosedNow yX3_isClosedNow, .code yX3_isClosedNow cX3_isClosedNow 5 (some .boolean), .fieldLink RX3 41 "CableOfficeModel" "froms" "[I", .fieldLink RX3 44 "CableOfficeModel" "tos" "[I"] ++ wsX30)
def wsX3_doTouch : List Cond := .code yX3_doTouch cX3_doTouch 9 (some .boolean) :: ([.fieldLink RX3 29 "CableOfficeModel" "lefts" "[I", .fieldLink RX3 32 "CableOfficeModel" "lows" "[I", .fieldLink RX3 35 "CableOfficeModel" "rights" "[I", .fieldLink RX3 38 "CableOfficeModel" "highs" "[I", .fieldLink RX3 19 "CableOfficeModel" "xs" "[I", .fieldLink RX3 22 "CableOfficeModel" "ys" "[I", .methodLink RX3 66 yX3_in, .static yX3_in, .initialized RX3, .code yX3_in cX3_in 3 (some .boolean), .methodLink RX3 95 yX3_meets, .instanceMethod yX3_meets, .selects RX3 yX3_meets yX3_meets, .code yX3_meets cX3_meets 16 (some .boolean), .methodLink RX3 87 yX3_side, .static yX3_side, .code yX3_side cX3_side 7 (some .int), .methodLink RX3 91 yX3_isBetween, .static yX3_isBetween, .code yX3_isBetween cX3_isBetween 7 (some .boolean)] ++ wsX30)
def wsX3_touches_r1 : List Cond := [Cond.methodLink RX3 150 yX3_isPiece, Cond.instanceMethod yX3_isPiece, Cond.selects RX3 yX3_isPiece yX3_isPiece, Cond.initialized RX3, Cond.code yX3_isPiece cX3_isPiece 3 (some .boolean), Cond.fieldLink RX3 16 "CableOfficeModel" "counts" "[I", Cond.methodLink RX3 73 yX3_isCable, Cond.instanceMethod yX3_isCable, Cond.selects RX3 yX3_isCable yX3_isCable, Cond.code yX3_isCable cX3_isCable 2 (some .boolean), Cond.fieldLink RX3 70 "CableOfficeModel" "cables" "I", Cond.methodLink RX3 66 yX3_in, Cond.static yX3_in, Cond.code yX3_in cX3_in 3 (some .boolean), Cond.methodLink RX3 139 yX3_isGround, Cond.instanceMethod yX3_isGround, Cond.selects RX3 yX3_isGround yX3_isGround, Cond.code yX3_isGround cX3_isGround 2 (some .boolean), Cond.fieldLink RX3 133 "CableOfficeModel" "grounds" "I", Cond.methodLink RX3 84 yX3_holds, Cond.instanceMethod yX3_holds, Cond.selects RX3 yX3_holds yX3_holds, Cond.code yX3_holds cX3_holds 2 (some .boolean), Cond.fieldLink RX3 62 "CableOfficeModel" "thrown" "I"]
def wsX3_touches_r2 : List Cond := [Cond.methodLink RX3 153 yX3_doTouch, Cond.instanceMethod yX3_doTouch, Cond.selects RX3 yX3_doTouch yX3_doTouch, Cond.code yX3_doTouch cX3_doTouch 9 (some .boolean), Cond.fieldLink RX3 29 "CableOfficeModel" "lefts" "[I", Cond.fieldLink RX3 32 "CableOfficeModel" "lows" "[I", Cond.fieldLink RX3 35 "CableOfficeModel" "rights" "[I", Cond.fieldLink RX3 38 "CableOfficeModel" "highs" "[I", Cond.fieldLink RX3 19 "CableOfficeModel" "xs" "[I", Cond.fieldLink RX3 22 "CableOfficeModel" "ys" "[I", Cond.methodLink RX3 95 yX3_meets, Cond.instanceMethod yX3_meets, Cond.selects RX3 yX3_meets yX3_meets, Cond.code yX3_meets cX3_meets 16 (some .boolean), Cond.methodLink RX3 87 yX3_side, Cond.static yX3_side, Cond.code yX3_side cX3_side 7 (some .int), Cond.methodLink RX3 91 yX3_isBetween, Cond.static yX3_isBetween, Cond.code yX3_isBetween cX3_isBetween 7 (some .boolean)]
def wsX3_touches : List Cond := .code yX3_touches cX3_touches 4 (some .boolean) :: ((wsX3_touches_r1 ++ wsX3_touches_r2) ++ wsX30)
def wsX3_lifts : List Cond := .code yX3_lifts cX3_lifts 6 (some .int) :: ([.fieldLink RX3 56 "CableOfficeModel" "areLifted" "[Z", .fieldLink RX3 59 "CableOfficeModel" "row" "[I", .fieldLink RX3 70 "CableOfficeModel" "cables" "I", .fieldLink RX3 16 "CableOfficeModel" "counts" "[I", .methodLink RX3 99 yX3_doCross, .instanceMethod yX3_doCross, .selects RX3 yX3_doCross yX3_doCross, .initialized RX3, .code yX3_doCross cX3_doCross 3 (some .boolean), .fieldLink RX3 19 "CableOfficeModel" "xs" "[I", .fieldLink RX3 22 "CableOfficeModel" "ys" "[I", .methodLink RX3 95 yX3_meets, .instanceMethod yX3_meets, .selects RX3 yX3_meets yX3_meets, .code yX3_meets cX3_meets 16 (some .boolean), .methodLink RX3 87 yX3_side, .static yX3_side, .code yX3_side cX3_side 7 (some .int), .methodLink RX3 91 yX3_isBetween, .static yX3_isBetween, .code yX3_isBetween cX3_isBetween 7 (some .boolean), .methodLink RX3 66 yX3_in, .static yX3_in, .code yX3_in cX3_in 3 (some .boolean)] ++ wsX30)
def wsX3_lifted_r1 : List Cond := [Cond.methodLink RX3 150 yX3_isPiece, Cond.instanceMethod yX3_isPiece, Cond.selects RX3 yX3_isPiece yX3_isPiece, Cond.initialized RX3, Cond.code yX3_isPiece cX3_isPiece 3 (some .boolean), Cond.fieldLink RX3 16 "CableOfficeModel" "counts" "[I", Cond.methodLink RX3 73 yX3_isCable, Cond.instanceMethod yX3_isCable, Cond.selects RX3 yX3_isCable yX3_isCable, Cond.code yX3_isCable cX3_isCable 2 (some .boolean), Cond.fieldLink RX3 70 "CableOfficeModel" "cables" "I", Cond.methodLink RX3 66 yX3_in, Cond.static yX3_in, Cond.code yX3_in cX3_in 3 (some .boolean), Cond.methodLink RX3 84 yX3_holds, Cond.instanceMethod yX3_holds, Cond.selects RX3 yX3_holds yX3_holds, Cond.code yX3_holds cX3_holds 2 (some .boolean), Cond.fieldLink RX3 62 "CableOfficeModel" "thrown" "I", Cond.methodLink RX3 156 yX3_lifts, Cond.instanceMethod yX3_lifts, Cond.selects RX3 yX3_lifts yX3_lifts, Cond.code yX3_lifts cX3_lifts 6 (some .int), Cond.fieldLink RX3 56 "CableOfficeModel" "areLifted" "[Z"]
def wsX3_lifted_r2 : List Cond := [Cond.fieldLink RX3 59 "CableOfficeModel" "row" "[I", Cond.methodLink RX3 99 yX3_doCross, Cond.instanceMethod yX3_doCross, Cond.selects RX3 yX3_doCross yX3_doCross, Cond.code yX3_doCross cX3_doCross 3 (some .boolean), Cond.fieldLink RX3 19 "CableOfficeModel" "xs" "[I", Cond.fieldLink RX3 22 "CableOfficeModel" "ys" "[I", Cond.methodLink RX3 95 yX3_meets, Cond.instanceMethod yX3_meets, Cond.selects RX3 yX3_meets yX3_meets, Cond.code yX3_meets cX3_meets 16 (some .boolean), Cond.methodLink RX3 87 yX3_side, Cond.static yX3_side, Cond.code yX3_side cX3_side 7 (some .int), Cond.methodLink RX3 91 yX3_isBetween, Cond.static yX3_isBetween, Cond.code yX3_isBetween cX3_isBetween 7 (some .boolean)]
def wsX3_lifted : List Cond := .code yX3_lifted cX3_lifted 3 (some .int) :: ((wsX3_lifted_r1 ++ wsX3_lifted_r2) ++ wsX30)
def wsX3_isPossible_r1 : List Cond := [Cond.fieldLink RX3 59 "CableOfficeModel" "row" "[I", Cond.methodLink RX3 99 yX3_doCross, Cond.instanceMethod yX3_doCross, Cond.selects RX3 yX3_doCross yX3_doCross, Cond.initialized RX3, Cond.code yX3_doCross cX3_doCross 3 (some .boolean), Cond.fieldLink RX3 19 "CableOfficeModel" "xs" "[I", Cond.fieldLink RX3 22 "CableOfficeModel" "ys" "[I", Cond.methodLink RX3 95 yX3_meets, Cond.instanceMethod yX3_meets, Cond.selects RX3 yX3_meets yX3_meets, Cond.code yX3_meets cX3_meets 16 (some .boolean), Cond.methodLink RX3 87 yX3_side, Cond.static yX3_side, Cond.code yX3_side cX3_side 7 (some .int), Cond.methodLink RX3 91 yX3_isBetween, Cond.static yX3_isBetween, Cond.code yX3_isBetween cX3_isBetween 7 (some .boolean), Cond.methodLink RX3 66 yX3_in, Cond.static yX3_in, Cond.code yX3_in cX3_in 3 (some .boolean), Cond.methodLink RX3 126 yX3_isBare, Cond.instanceMethod yX3_isBare, Cond.selects RX3 yX3_isBare yX3_isBare]
def wsX3_isPossible_r2 : List Cond := [Cond.code yX3_isBare cX3_isBare 3 (some .boolean), Cond.fieldLink RX3 25 "CableOfficeModel" "areAgreed" "[Z", Cond.methodLink RX3 105 yX3_crossed, Cond.instanceMethod yX3_crossed, Cond.selects RX3 yX3_crossed yX3_crossed, Cond.code yX3_crossed cX3_crossed 6 (some .int), Cond.fieldLink RX3 16 "CableOfficeModel" "counts" "[I"]
def wsX3_isPossible : List Cond := .code yX3_isPossible cX3_isPossible 5 (some .boolean) :: ((wsX3_isPossible_r1 ++ wsX3_isPossible_r2) ++ wsX30)
def wsX3_isTouched_r1 : List Cond := [Cond.fieldLink RX3 59 "CableOfficeModel" "row" "[I", Cond.methodLink RX3 147 yX3_isClosedNow, Cond.instanceMethod yX3_isClosedNow, Cond.selects RX3 yX3_isClosedNow yX3_isClosedNow, Cond.initialized RX3, Cond.code yX3_isClosedNow cX3_isClosedNow 5 (some .boolean), Cond.fieldLink RX3 41 "CableOfficeModel" "froms" "[I", Cond.fieldLink RX3 44 "CableOfficeModel" "tos" "[I", Cond.methodLink RX3 66 yX3_in, Cond.static yX3_in, Cond.code yX3_in cX3_in 3 (some .boolean), Cond.methodLink RX3 153 yX3_doTouch, Cond.instanceMethod yX3_doTouch, Cond.selects RX3 yX3_doTouch yX3_doTouch, Cond.code yX3_doTouch cX3_doTouch 9 (some .boolean), Cond.fieldLink RX3 29 "CableOfficeModel" "lefts" "[I", Cond.fieldLink RX3 32 "CableOfficeModel" "lows" "[I", Cond.fieldLink RX3 35 "CableOfficeModel" "rights" "[I", Cond.fieldLink RX3 38 "CableOfficeModel" "highs" "[I", Cond.fieldLink RX3 19 "CableOfficeModel" "xs" "[I", Cond.fieldLink RX3 22 "CableOfficeModel" "ys" "[I", Cond.methodLink RX3 95 yX3_meets, Cond.instanceMethod yX3_meets, Cond.selects RX3 yX3_meets yX3_meets]
def wsX3_isTouched_r2 : List Cond := [Cond.code yX3_meets cX3_meets 16 (some .boolean), Cond.methodLink RX3 87 yX3_side, Cond.static yX3_side, Cond.code yX3_side cX3_side 7 (some .int), Cond.methodLink RX3 91 yX3_isBetween, Cond.static yX3_isBetween, Cond.code yX3_isBetween cX3_isBetween 7 (some .boolean)]
def wsX3_isTouched : List Cond := .code yX3_isTouched cX3_isTouched 5 (some .boolean) :: ((wsX3_isTouched_r1 ++ wsX3_isTouched_r2) ++ wsX30)
def wsX3_repaired_r1 : List Cond := [Cond.fieldLink RX3 133 "CableOfficeModel" "grounds" "I", Cond.fieldLink RX3 53 "CableOfficeModel" "paid" "[I", Cond.methodLink RX3 156 yX3_lifts, Cond.instanceMethod yX3_lifts, Cond.selects RX3 yX3_lifts yX3_lifts, Cond.initialized RX3, Cond.code yX3_lifts cX3_lifts 6 (some .int), Cond.fieldLink RX3 56 "CableOfficeModel" "areLifted" "[Z", Cond.fieldLink RX3 59 "CableOfficeModel" "row" "[I", Cond.fieldLink RX3 70 "CableOfficeModel" "cables" "I", Cond.fieldLink RX3 16 "CableOfficeModel" "counts" "[I", Cond.methodLink RX3 99 yX3_doCross, Cond.instanceMethod yX3_doCross, Cond.selects RX3 yX3_doCross yX3_doCross, Cond.code yX3_doCross cX3_doCross 3 (some .boolean), Cond.fieldLink RX3 19 "CableOfficeModel" "xs" "[I", Cond.fieldLink RX3 22 "CableOfficeModel" "ys" "[I", Cond.methodLink RX3 95 yX3_meets, Cond.instanceMethod yX3_meets, Cond.selects RX3 yX3_meets yX3_meets, Cond.code yX3_meets cX3_meets 16 (some .boolean), Cond.methodLink RX3 87 yX3_side, Cond.static yX3_side, Cond.code yX3_side cX3_side 7 (some .int)]
def wsX3_repaired_r2 : List Cond := [Cond.methodLink RX3 91 yX3_isBetween, Cond.static yX3_isBetween, Cond.code yX3_isBetween cX3_isBetween 7 (some .boolean), Cond.methodLink RX3 66 yX3_in, Cond.static yX3_in, Cond.code yX3_in cX3_in 3 (some .boolean), Cond.methodLink RX3 159 yX3_isPossible, Cond.instanceMethod yX3_isPossible, Cond.selects RX3 yX3_isPossible yX3_isPossible, Cond.code yX3_isPossible cX3_isPossible 5 (some .boolean), Cond.methodLink RX3 126 yX3_isBare, Cond.instanceMethod yX3_isBare, Cond.selects RX3 yX3_isBare yX3_isBare, Cond.code yX3_isBare cX3_isBare 3 (some .boolean), Cond.fieldLink RX3 25 "CableOfficeModel" "areAgreed" "[Z", Cond.methodLink RX3 105 yX3_crossed, Cond.instanceMethod yX3_crossed, Cond.selects RX3 yX3_crossed yX3_crossed, Cond.code yX3_crossed cX3_crossed 6 (some .int), Cond.methodLink RX3 162 yX3_isTouched, Cond.instanceMethod yX3_isTouched, Cond.selects RX3 yX3_isTouched yX3_isTouched, Cond.code yX3_isTouched cX3_isTouched 5 (some .boolean), Cond.methodLink RX3 147 yX3_isClosedNow]
def wsX3_repaired_r3 : List Cond := [Cond.instanceMethod yX3_isClosedNow, Cond.selects RX3 yX3_isClosedNow yX3_isClosedNow, Cond.code yX3_isClosedNow cX3_isClosedNow 5 (some .boolean), Cond.fieldLink RX3 41 "CableOfficeModel" "froms" "[I", Cond.fieldLink RX3 44 "CableOfficeModel" "tos" "[I", Cond.methodLink RX3 153 yX3_doTouch, Cond.instanceMethod yX3_doTouch, Cond.selects RX3 yX3_doTouch yX3_doTouch, Cond.code yX3_doTouch cX3_doTouch 9 (some .boolean), Cond.fieldLink RX3 29 "CableOfficeModel" "lefts" "[I", Cond.fieldLink RX3 32 "CableOfficeModel" "lows" "[I", Cond.fieldLink RX3 35 "CableOfficeModel" "rights" "[I", Cond.fieldLink RX3 38 "CableOfficeModel" "highs" "[I", Cond.methodLink RX3 143 yX3_price, Cond.instanceMethod yX3_price, Cond.selects RX3 yX3_price yX3_price, Cond.code yX3_price cX3_price 2 (some .int), Cond.fieldLink RX3 50 "CableOfficeModel" "years" "[I", Cond.fieldLink RX3 47 "CableOfficeModel" "sums" "[I"]
def wsX3_repaired : List Cond := .code yX3_repaired cX3_repaired 8 (some .int) :: ((wsX3_repaired_r1 ++ (wsX3_repaired_r2 ++ wsX3_repaired_r3)) ++ wsX30)
def wsX3_cost_r1 : List Cond := [Cond.methodLink RX3 150 yX3_isPiece, Cond.instanceMethod yX3_isPiece, Cond.selects RX3 yX3_isPiece yX3_isPiece, Cond.initialized RX3, Cond.code yX3_isPiece cX3_isPiece 3 (some .boolean), Cond.fieldLink RX3 16 "CableOfficeModel" "counts" "[I", Cond.methodLink RX3 73 yX3_isCable, Cond.instanceMethod yX3_isCable, Cond.selects RX3 yX3_isCable yX3_isCable, Cond.code yX3_isCable cX3_isCable 2 (some .boolean), Cond.fieldLink RX3 70 "CableOfficeModel" "cables" "I", Cond.methodLink RX3 66 yX3_in, Cond.static yX3_in, Cond.code yX3_in cX3_in 3 (some .boolean), Cond.methodLink RX3 136 yX3_isMonth, Cond.static yX3_isMonth, Cond.code yX3_isMonth cX3_isMonth 1 (some .boolean), Cond.methodLink RX3 84 yX3_holds, Cond.instanceMethod yX3_holds, Cond.selects RX3 yX3_holds yX3_holds, Cond.code yX3_holds cX3_holds 2 (some .boolean), Cond.fieldLink RX3 62 "CableOfficeModel" "thrown" "I", Cond.methodLink RX3 165 yX3_repaired, Cond.instanceMethod yX3_repaired]
def wsX3_cost_r2 : List Cond := [Cond.selects RX3 yX3_repaired yX3_repaired, Cond.code yX3_repaired cX3_repaired 8 (some .int), Cond.fieldLink RX3 133 "CableOfficeModel" "grounds" "I", Cond.fieldLink RX3 53 "CableOfficeModel" "paid" "[I", Cond.methodLink RX3 156 yX3_lifts, Cond.instanceMethod yX3_lifts, Cond.selects RX3 yX3_lifts yX3_lifts, Cond.code yX3_lifts cX3_lifts 6 (some .int), Cond.fieldLink RX3 56 "CableOfficeModel" "areLifted" "[Z", Cond.fieldLink RX3 59 "CableOfficeModel" "row" "[I", Cond.methodLink RX3 99 yX3_doCross, Cond.instanceMethod yX3_doCross, Cond.selects RX3 yX3_doCross yX3_doCross, Cond.code yX3_doCross cX3_doCross 3 (some .boolean), Cond.fieldLink RX3 19 "CableOfficeModel" "xs" "[I", Cond.fieldLink RX3 22 "CableOfficeModel" "ys" "[I", Cond.methodLink RX3 95 yX3_meets, Cond.instanceMethod yX3_meets, Cond.selects RX3 yX3_meets yX3_meets, Cond.code yX3_meets cX3_meets 16 (some .boolean), Cond.methodLink RX3 87 yX3_side, Cond.static yX3_side, Cond.code yX3_side cX3_side 7 (some .int), Cond.methodLink RX3 91 yX3_isBetween]
def wsX3_cost_r3 : List Cond := [Cond.static yX3_isBetween, Cond.code yX3_isBetween cX3_isBetween 7 (some .boolean), Cond.methodLink RX3 159 yX3_isPossible, Cond.instanceMethod yX3_isPossible, Cond.selects RX3 yX3_isPossible yX3_isPossible, Cond.code yX3_isPossible cX3_isPossible 5 (some .boolean), Cond.methodLink RX3 126 yX3_isBare, Cond.instanceMethod yX3_isBare, Cond.selects RX3 yX3_isBare yX3_isBare, Cond.code yX3_isBare cX3_isBare 3 (some .boolean), Cond.fieldLink RX3 25 "CableOfficeModel" "areAgreed" "[Z", Cond.methodLink RX3 105 yX3_crossed, Cond.instanceMethod yX3_crossed, Cond.selects RX3 yX3_crossed yX3_crossed, Cond.code yX3_crossed cX3_crossed 6 (some .int), Cond.methodLink RX3 162 yX3_isTouched, Cond.instanceMethod yX3_isTouched, Cond.selects RX3 yX3_isTouched yX3_isTouched, Cond.code yX3_isTouched cX3_isTouched 5 (some .boolean), Cond.methodLink RX3 147 yX3_isClosedNow, Cond.instanceMethod yX3_isClosedNow, Cond.selects RX3 yX3_isClosedNow yX3_isClosedNow, Cond.code yX3_isClosedNow cX3_isClosedNow 5 (some .boolean), Cond.fieldLink RX3 41 "CableOfficeModel" "froms" "[I"]
def wsX3_cost_r4 : List Cond := [Cond.fieldLink RX3 44 "CableOfficeModel" "tos" "[I", Cond.methodLink RX3 153 yX3_doTouch, Cond.instanceMethod yX3_doTouch, Cond.selects RX3 yX3_doTouch yX3_doTouch, Cond.code yX3_doTouch cX3_doTouch 9 (some .boolean), Cond.fieldLink RX3 29 "CableOfficeModel" "lefts" "[I", Cond.fieldLink RX3 32 "CableOfficeModel" "lows" "[I", Cond.fieldLink RX3 35 "CableOfficeModel" "rights" "[I", Cond.fieldLink RX3 38 "CableOfficeModel" "highs" "[I", Cond.methodLink RX3 143 yX3_price, Cond.instanceMethod yX3_price, Cond.selects RX3 yX3_price yX3_price, Cond.code yX3_price cX3_price 2 (some .int), Cond.fieldLink RX3 50 "CableOfficeModel" "years" "[I", Cond.fieldLink RX3 47 "CableOfficeModel" "sums" "[I"]
def wsX3_cost : List Cond := .code yX3_cost cX3_cost 4 (some .int) :: ((wsX3_cost_r1 ++ (wsX3_cost_r2 ++ (wsX3_cost_r3 ++ wsX3_cost_r4))) ++ wsX30)
def wsX3_errorOfRepair_r1 : List Cond := [Cond.fieldLink RX3 169 "CableOfficeModel" "repairs" "I", Cond.methodLink RX3 150 yX3_isPiece, Cond.instanceMethod yX3_isPiece, Cond.selects RX3 yX3_isPiece yX3_isPiece, Cond.initialized RX3, Cond.code yX3_isPiece cX3_isPiece 3 (some .boolean), Cond.fieldLink RX3 16 "CableOfficeModel" "counts" "[I", Cond.methodLink RX3 73 yX3_isCable, Cond.instanceMethod yX3_isCable, Cond.selects RX3 yX3_isCable yX3_isCable, Cond.code yX3_isCable cX3_isCable 2 (some .boolean), Cond.fieldLink RX3 70 "CableOfficeModel" "cables" "I", Cond.methodLink RX3 66 yX3_in, Cond.static yX3_in, Cond.code yX3_in cX3_in 3 (some .boolean), Cond.methodLink RX3 136 yX3_isMonth, Cond.static yX3_isMonth, Cond.code yX3_isMonth cX3_isMonth 1 (some .boolean), Cond.methodLink RX3 165 yX3_repaired, Cond.instanceMethod yX3_repaired, Cond.selects RX3 yX3_repaired yX3_repaired, Cond.code yX3_repaired cX3_repaired 8 (some .int), Cond.fieldLink RX3 133 "CableOfficeModel" "grounds" "I", Cond.fieldLink RX3 53 "CableOfficeModel" "paid" "[I"]
def wsX3_errorOfRepair_r2 : List Cond := [Cond.methodLink RX3 156 yX3_lifts, Cond.instanceMethod yX3_lifts, Cond.selects RX3 yX3_lifts yX3_lifts, Cond.code yX3_lifts cX3_lifts 6 (some .int), Cond.fieldLink RX3 56 "CableOfficeModel" "areLifted" "[Z", Cond.fieldLink RX3 59 "CableOfficeModel" "row" "[I", Cond.methodLink RX3 99 yX3_doCross, Cond.instanceMethod yX3_doCross, Cond.selects RX3 yX3_doCross yX3_doCross, Cond.code yX3_doCross cX3_doCross 3 (some .boolean), Cond.fieldLink RX3 19 "CableOfficeModel" "xs" "[I", Cond.fieldLink RX3 22 "CableOfficeModel" "ys" "[I", Cond.methodLink RX3 95 yX3_meets, Cond.instanceMethod yX3_meets, Cond.selects RX3 yX3_meets yX3_meets, Cond.code yX3_meets cX3_meets 16 (some .boolean), Cond.methodLink RX3 87 yX3_side, Cond.static yX3_side, Cond.code yX3_side cX3_side 7 (some .int), Cond.methodLink RX3 91 yX3_isBetween, Cond.static yX3_isBetween, Cond.code yX3_isBetween cX3_isBetween 7 (some .boolean), Cond.methodLink RX3 159 yX3_isPossible, Cond.instanceMethod yX3_isPossible]
def wsX3_errorOfRepair_r3 : List Cond := [Cond.selects RX3 yX3_isPossible yX3_isPossible, Cond.code yX3_isPossible cX3_isPossible 5 (some .boolean), Cond.methodLink RX3 126 yX3_isBare, Cond.instanceMethod yX3_isBare, Cond.selects RX3 yX3_isBare yX3_isBare, Cond.code yX3_isBare cX3_isBare 3 (some .boolean), Cond.fieldLink RX3 25 "CableOfficeModel" "areAgreed" "[Z", Cond.methodLink RX3 105 yX3_crossed, Cond.instanceMethod yX3_crossed, Cond.selects RX3 yX3_crossed yX3_crossed, Cond.code yX3_crossed cX3_crossed 6 (some .int), Cond.methodLink RX3 162 yX3_isTouched, Cond.instanceMethod yX3_isTouched, Cond.selects RX3 yX3_isTouched yX3_isTouched, Cond.code yX3_isTouched cX3_isTouched 5 (some .boolean), Cond.methodLink RX3 147 yX3_isClosedNow, Cond.instanceMethod yX3_isClosedNow, Cond.selects RX3 yX3_isClosedNow yX3_isClosedNow, Cond.code yX3_isClosedNow cX3_isClosedNow 5 (some .boolean), Cond.fieldLink RX3 41 "CableOfficeModel" "froms" "[I", Cond.fieldLink RX3 44 "CableOfficeModel" "tos" "[I", Cond.methodLink RX3 153 yX3_doTouch, Cond.instanceMethod yX3_doTouch, Cond.selects RX3 yX3_doTouch yX3_doTouch]
def wsX3_errorOfRepair_r4 : List Cond := [Cond.code yX3_doTouch cX3_doTouch 9 (some .boolean), Cond.fieldLink RX3 29 "CableOfficeModel" "lefts" "[I", Cond.fieldLink RX3 32 "CableOfficeModel" "lows" "[I", Cond.fieldLink RX3 35 "CableOfficeModel" "rights" "[I", Cond.fieldLink RX3 38 "CableOfficeModel" "highs" "[I", Cond.methodLink RX3 143 yX3_price, Cond.instanceMethod yX3_price, Cond.selects RX3 yX3_price yX3_price, Cond.code yX3_price cX3_price 2 (some .int), Cond.fieldLink RX3 50 "CableOfficeModel" "years" "[I", Cond.fieldLink RX3 47 "CableOfficeModel" "sums" "[I"]
def wsX3_errorOfRepair : List Cond := .code yX3_errorOfRepair cX3_errorOfRepair 4 (some .int) :: ((wsX3_errorOfRepair_r1 ++ (wsX3_errorOfRepair_r2 ++ (wsX3_errorOfRepair_r3 ++ wsX3_errorOfRepair_r4))) ++ wsX30)
def wsX3_repair_r1 : List Cond := [Cond.fieldLink RX3 169 "CableOfficeModel" "repairs" "I", Cond.methodLink RX3 172 yX3_errorOfRepair, Cond.instanceMethod yX3_errorOfRepair, Cond.selects RX3 yX3_errorOfRepair yX3_errorOfRepair, Cond.initialized RX3, Cond.code yX3_errorOfRepair cX3_errorOfRepair 4 (some .int), Cond.methodLink RX3 150 yX3_isPiece, Cond.instanceMethod yX3_isPiece, Cond.selects RX3 yX3_isPiece yX3_isPiece, Cond.code yX3_isPiece cX3_isPiece 3 (some .boolean), Cond.fieldLink RX3 16 "CableOfficeModel" "counts" "[I", Cond.methodLink RX3 73 yX3_isCable, Cond.instanceMethod yX3_isCable, Cond.selects RX3 yX3_isCable yX3_isCable, Cond.code yX3_isCable cX3_isCable 2 (some .boolean), Cond.fieldLink RX3 70 "CableOfficeModel" "cables" "I", Cond.methodLink RX3 66 yX3_in, Cond.static yX3_in, Cond.code yX3_in cX3_in 3 (some .boolean), Cond.methodLink RX3 136 yX3_isMonth, Cond.static yX3_isMonth, Cond.code yX3_isMonth cX3_isMonth 1 (some .boolean), Cond.methodLink RX3 165 yX3_repaired, Cond.instanceMethod yX3_repaired]
def wsX3_repair_r2 : List Cond := [Cond.selects RX3 yX3_repaired yX3_repaired, Cond.code yX3_repaired cX3_repaired 8 (some .int), Cond.fieldLink RX3 133 "CableOfficeModel" "grounds" "I", Cond.fieldLink RX3 53 "CableOfficeModel" "paid" "[I", Cond.methodLink RX3 156 yX3_lifts, Cond.instanceMethod yX3_lifts, Cond.selects RX3 yX3_lifts yX3_lifts, Cond.code yX3_lifts cX3_lifts 6 (some .int), Cond.fieldLink RX3 56 "CableOfficeModel" "areLifted" "[Z", Cond.fieldLink RX3 59 "CableOfficeModel" "row" "[I", Cond.methodLink RX3 99 yX3_doCross, Cond.instanceMethod yX3_doCross, Cond.selects RX3 yX3_doCross yX3_doCross, Cond.code yX3_doCross cX3_doCross 3 (some .boolean), Cond.fieldLink RX3 19 "CableOfficeModel" "xs" "[I", Cond.fieldLink RX3 22 "CableOfficeModel" "ys" "[I", Cond.methodLink RX3 95 yX3_meets, Cond.instanceMethod yX3_meets, Cond.selects RX3 yX3_meets yX3_meets, Cond.code yX3_meets cX3_meets 16 (some .boolean), Cond.methodLink RX3 87 yX3_side, Cond.static yX3_side, Cond.code yX3_side cX3_side 7 (some .int), Cond.methodLink RX3 91 yX3_isBetween]
def wsX3_repair_r3 : List Cond := [Cond.static yX3_isBetween, Cond.code yX3_isBetween cX3_isBetween 7 (some .boolean), Cond.methodLink RX3 159 yX3_isPossible, Cond.instanceMethod yX3_isPossible, Cond.selects RX3 yX3_isPossible yX3_isPossible, Cond.code yX3_isPossible cX3_isPossible 5 (some .boolean), Cond.methodLink RX3 126 yX3_isBare, Cond.instanceMethod yX3_isBare, Cond.selects RX3 yX3_isBare yX3_isBare, Cond.code yX3_isBare cX3_isBare 3 (some .boolean), Cond.fieldLink RX3 25 "CableOfficeModel" "areAgreed" "[Z", Cond.methodLink RX3 105 yX3_crossed, Cond.instanceMethod yX3_crossed, Cond.selects RX3 yX3_crossed yX3_crossed, Cond.code yX3_crossed cX3_crossed 6 (some .int), Cond.methodLink RX3 162 yX3_isTouched, Cond.instanceMethod yX3_isTouched, Cond.selects RX3 yX3_isTouched yX3_isTouched, Cond.code yX3_isTouched cX3_isTouched 5 (some .boolean), Cond.methodLink RX3 147 yX3_isClosedNow, Cond.instanceMethod yX3_isClosedNow, Cond.selects RX3 yX3_isClosedNow yX3_isClosedNow, Cond.code yX3_isClosedNow cX3_isClosedNow 5 (some .boolean), Cond.fieldLink RX3 41 "CableOfficeModel" "froms" "[I"]
def wsX3_repair_r4 : List Cond := [Cond.fieldLink RX3 44 "CableOfficeModel" "tos" "[I", Cond.methodLink RX3 153 yX3_doTouch, Cond.instanceMethod yX3_doTouch, Cond.selects RX3 yX3_doTouch yX3_doTouch, Cond.code yX3_doTouch cX3_doTouch 9 (some .boolean), Cond.fieldLink RX3 29 "CableOfficeModel" "lefts" "[I", Cond.fieldLink RX3 32 "CableOfficeModel" "lows" "[I", Cond.fieldLink RX3 35 "CableOfficeModel" "rights" "[I", Cond.fieldLink RX3 38 "CableOfficeModel" "highs" "[I", Cond.methodLink RX3 143 yX3_price, Cond.instanceMethod yX3_price, Cond.selects RX3 yX3_price yX3_price, Cond.code yX3_price cX3_price 2 (some .int), Cond.fieldLink RX3 50 "CableOfficeModel" "years" "[I", Cond.fieldLink RX3 47 "CableOfficeModel" "sums" "[I", Cond.methodLink RX3 84 yX3_holds, Cond.instanceMethod yX3_holds, Cond.selects RX3 yX3_holds yX3_holds, Cond.code yX3_holds cX3_holds 2 (some .boolean), Cond.fieldLink RX3 62 "CableOfficeModel" "thrown" "I"]
def wsX3_repair : List Cond := .code yX3_repair cX3_repair 4 (some .int) :: ((wsX3_repair_r1 ++ (wsX3_repair_r2 ++ (wsX3_repair_r3 ++ wsX3_repair_r4))) ++ wsX30)
def wsX3_paid : List Cond := .code yX3_paid cX3_paid 2 (some .int) :: ([.fieldLink RX3 53 "CableOfficeModel" "paid" "[I", .methodLink RX3 139 yX3_isGround, .instanceMethod yX3_isGround, .selects RX3 yX3_isGround yX3_isGround, .initialized RX3, .code yX3_isGround cX3_isGround 2 (some .boolean), .fieldLink RX3 133 "CableOfficeModel" "grounds" "I", .methodLink RX3 66 yX3_in, .static yX3_in, .code yX3_in cX3_in 3 (some .boolean), .methodLink RX3 84 yX3_holds, .instanceMethod yX3_holds, .selects RX3 yX3_holds yX3_holds, .code yX3_holds cX3_holds 2 (some .boolean), .fieldLink RX3 62 "CableOfficeModel" "thrown" "I"] ++ wsX30)
def wsJ9_abs_0f7a4 : List Cond := .code yJ9_abs_0f7a4 cJ9_abs_0f7a4 1 (some .int) :: ([])
def wsJ9_max_7cf53 : List Cond := .code yJ9_max_7cf53 cJ9_max_7cf53 2 (some .int) :: ([])
def wsJ9_min_7cf53 : List Cond := .code yJ9_min_7cf53 cJ9_min_7cf53 2 (some .int) :: ([])
def wsL_draft_r1 : List Cond := [Cond.classLink RL 13 "java/lang/IllegalArgumentException", Cond.classLink RL 15 "java/lang/IllegalStateException", Cond.methodLink RL 7 yX2_draft, Cond.instanceMethod yX2_draft, Cond.selects RX2 yX2_draft yX2_draft, Cond.initialized RX2, Cond.code yX2_draft cX2_draft 3 (some .int), Cond.classLink RX2 59 "java/lang/IllegalStateException", Cond.initialized "java/lang/IllegalStateException", Cond.fieldLink RX2 10 "CableOffice" "draftRoute" "LCableOffice$Route;", Cond.methodLink RX2 48 yX2_demandPlace, Cond.static yX2_demandPlace, Cond.code yX2_demandPlace cX2_demandPlace 2 none, Cond.classLink RX2 113 "java/lang/IllegalArgumentException", Cond.initialized "java/lang/IllegalArgumentException", Cond.instanceMethod yX1_isAt, Cond.initialized RX1, Cond.selects RX1 yX1_isAt yX1_isAt, Cond.code yX1_isAt cX1_isAt 4 (some .boolean), Cond.fieldLink RX1 18 "CableOffice$Route" "points" "I", Cond.fieldLink RX1 9 "CableOffice$Route" "x" "[I", Cond.fieldLink RX1 15 "CableOffice$Route" "y" "[I", Cond.instanceMethod yX1_add, Cond.selects RX1 yX1_add yX1_add]
def wsL_draft_r2 : List Cond := [Cond.code yX1_add cX1_add 3 none]
def wsL_draft : List Cond := .codeWith yL_draft cL_draft 5 (some .int) [(0, 10, 13, 13), (0, 10, 17, 15)] :: ((wsL_draft_r1 ++ wsL_draft_r2) ++ wsX20 ++ wsX10 ++ (vx_atS RX2 63 "java/lang/IllegalStateException" ["java/lang/RuntimeException", "java/lang/Exception"]).filter goodWord ++ (vx_atS RX2 117 "java/lang/IllegalArgumentException" ["java/lang/RuntimeException", "java/lang/Exception"]).filter goodWord)
def wsL_lay_r1 : List Cond := [Cond.classLink RL 15 "java/lang/IllegalStateException", Cond.methodLink RL 17 yX2_lay, Cond.instanceMethod yX2_lay, Cond.selects RX2 yX2_lay yX2_lay, Cond.initialized RX2, Cond.code yX2_lay cX2_lay 3 (some .int), Cond.classLink RX2 59 "java/lang/IllegalStateException", Cond.initialized "java/lang/IllegalStateException", Cond.fieldLink RX2 10 "CableOffice" "draftRoute" "LCableOffice$Route;", Cond.fieldLink RX2 20 "CableOffice" "cableCount" "I", Cond.fieldLink RX2 16 "CableOffice" "routes" "[LCableOffice$Route;", Cond.instanceMethod yX1_takeAllOf, Cond.initialized RX1, Cond.selects RX1 yX1_takeAllOf yX1_takeAllOf, Cond.code yX1_takeAllOf cX1_takeAllOf 2 none, Cond.fieldLink RX1 9 "CableOffice$Route" "x" "[I", Cond.methodLink RX1 22 arraycopyName, Cond.native arraycopyName, Cond.static arraycopyName, Cond.initialized "java/lang/System", Cond.fieldLink RX1 15 "CableOffice$Route" "y" "[I", Cond.fieldLink RX1 18 "CableOffice$Route" "points" "I", Cond.methodLink RX2 75 yX2_recount, Cond.instanceMethod yX2_recount]
def wsL_lay_r2 : List Cond := [Cond.selects RX2 yX2_recount yX2_recount, Cond.code yX2_recount cX2_recount 4 none, Cond.fieldLink RX2 24 "CableOffice" "crossed" "[I", Cond.fieldLink RX2 28 "CableOffice" "crossedSteeply" "[I", Cond.methodLink RX2 96 yX2_pairOf, Cond.static yX2_pairOf, Cond.code yX2_pairOf cX2_pairOf 2 (some .int), Cond.methodLink RX2 207 Lib.Math.min.name, Cond.static Lib.Math.min.name, Cond.initialized "java/lang/Math", Cond.code Lib.Math.min.name Lib.Math.min.code 2 (some .int), Cond.methodLink RX2 212 Lib.Math.max.name, Cond.static Lib.Math.max.name, Cond.code Lib.Math.max.name Lib.Math.max.code 2 (some .int), Cond.methodLink RX2 99 yX2_countCrossings, Cond.static yX2_countCrossings, Cond.code yX2_countCrossings cX2_countCrossings 6 (some .int), Cond.instanceMethod yX1_pieces, Cond.selects RX1 yX1_pieces yX1_pieces, Cond.code yX1_pieces cX1_pieces 1 (some .int), Cond.instanceMethod yX1_pieceCrosses, Cond.selects RX1 yX1_pieceCrosses yX1_pieceCrosses, Cond.code yX1_pieceCrosses cX1_pieceCrosses 4 (some .boolean), Cond.methodLink RX1 44 yX1_leftOf]
def wsL_lay_r3 : List Cond := [Cond.instanceMethod yX1_leftOf, Cond.selects RX1 yX1_leftOf yX1_leftOf, Cond.code yX1_leftOf cX1_leftOf 2 (some .int), Cond.methodLink RX1 35 Lib.Math.min.name, Cond.methodLink RX1 47 yX1_lowOf, Cond.instanceMethod yX1_lowOf, Cond.selects RX1 yX1_lowOf yX1_lowOf, Cond.code yX1_lowOf cX1_lowOf 2 (some .int), Cond.methodLink RX1 50 yX1_rightOf, Cond.instanceMethod yX1_rightOf, Cond.selects RX1 yX1_rightOf yX1_rightOf, Cond.code yX1_rightOf cX1_rightOf 2 (some .int), Cond.methodLink RX1 41 Lib.Math.max.name, Cond.methodLink RX1 53 yX1_highOf, Cond.instanceMethod yX1_highOf, Cond.selects RX1 yX1_highOf yX1_highOf, Cond.code yX1_highOf cX1_highOf 2 (some .int), Cond.methodLink RX1 56 yX1_boxMeets, Cond.instanceMethod yX1_boxMeets, Cond.selects RX1 yX1_boxMeets yX1_boxMeets, Cond.code yX1_boxMeets cX1_boxMeets 6 (some .boolean), Cond.methodLink RX1 60 yX1_lineDivides, Cond.instanceMethod yX1_lineDivides, Cond.selects RX1 yX1_lineDivides yX1_lineDivides]
def wsL_lay_r4 : List Cond := [Cond.code yX1_lineDivides cX1_lineDivides 6 (some .boolean), Cond.methodLink RX1 64 yX1_sideOf, Cond.instanceMethod yX1_sideOf, Cond.selects RX1 yX1_sideOf yX1_sideOf, Cond.code yX1_sideOf cX1_sideOf 4 (some .int), Cond.methodLink RX1 28 yX1_width, Cond.instanceMethod yX1_width, Cond.selects RX1 yX1_width yX1_width, Cond.code yX1_width cX1_width 2 (some .int), Cond.methodLink RX1 32 yX1_height, Cond.instanceMethod yX1_height, Cond.selects RX1 yX1_height yX1_height, Cond.code yX1_height cX1_height 2 (some .int), Cond.instanceMethod yX1_pieceIsSteepTo, Cond.selects RX1 yX1_pieceIsSteepTo yX1_pieceIsSteepTo, Cond.code yX1_pieceIsSteepTo cX1_pieceIsSteepTo 8 (some .boolean), Cond.methodLink RX1 68 Lib.Math.abs.name, Cond.static Lib.Math.abs.name, Cond.code Lib.Math.abs.name Lib.Math.abs.code 1 (some .int)]
def wsL_lay : List Cond := .codeWith yL_lay cL_lay 3 (some .int) [(0, 8, 11, 15)] :: ((wsL_lay_r1 ++ (wsL_lay_r2 ++ (wsL_lay_r3 ++ wsL_lay_r4))) ++ wsX20 ++ wsX10 ++ (vx_atS RX2 63 "java/lang/IllegalStateException" ["java/lang/RuntimeException", "java/lang/Exception"]).filter goodWord)
def wsL_move_r1 : List Cond := [Cond.classLink RL 25 "java/lang/IndexOutOfBoundsException", Cond.classLink RL 13 "java/lang/IllegalArgumentException", Cond.classLink RL 15 "java/lang/IllegalStateException", Cond.methodLink RL 21 yX2_move, Cond.instanceMethod yX2_move, Cond.selects RX2 yX2_move yX2_move, Cond.initialized RX2, Cond.code yX2_move cX2_move 8 (some .int), Cond.classLink RX2 59 "java/lang/IllegalStateException", Cond.initialized "java/lang/IllegalStateException", Cond.fieldLink RX2 16 "CableOffice" "routes" "[LCableOffice$Route;", Cond.fieldLink RX2 20 "CableOffice" "cableCount" "I", Cond.methodLink RX2 78 yX2_demandPoint, Cond.instanceMethod yX2_demandPoint, Cond.selects RX2 yX2_demandPoint yX2_demandPoint, Cond.code yX2_demandPoint cX2_demandPoint 3 none, Cond.classLink RX2 190 "java/lang/IndexOutOfBoundsException", Cond.initialized "java/lang/IndexOutOfBoundsException", Cond.methodLink RX2 195 yX2_demandCable, Cond.instanceMethod yX2_demandCable, Cond.selects RX2 yX2_demandCable yX2_demandCable, Cond.code yX2_demandCable cX2_demandCable 2 none, Cond.methodLink RX2 48 yX2_demandPlace, Cond.static yX2_demandPlace]
def wsL_move_r2 : List Cond := [Cond.code yX2_demandPlace cX2_demandPlace 2 none, Cond.classLink RX2 113 "java/lang/IllegalArgumentException", Cond.initialized "java/lang/IllegalArgumentException", Cond.instanceMethod yX1_isAt, Cond.initialized RX1, Cond.selects RX1 yX1_isAt yX1_isAt, Cond.code yX1_isAt cX1_isAt 4 (some .boolean), Cond.fieldLink RX1 18 "CableOffice$Route" "points" "I", Cond.fieldLink RX1 9 "CableOffice$Route" "x" "[I", Cond.fieldLink RX1 15 "CableOffice$Route" "y" "[I", Cond.methodLink RX2 75 yX2_recount, Cond.instanceMethod yX2_recount, Cond.selects RX2 yX2_recount yX2_recount, Cond.code yX2_recount cX2_recount 4 none, Cond.fieldLink RX2 24 "CableOffice" "crossed" "[I", Cond.fieldLink RX2 28 "CableOffice" "crossedSteeply" "[I", Cond.methodLink RX2 96 yX2_pairOf, Cond.static yX2_pairOf, Cond.code yX2_pairOf cX2_pairOf 2 (some .int), Cond.methodLink RX2 207 Lib.Math.min.name, Cond.static Lib.Math.min.name, Cond.initialized "java/lang/Math", Cond.code Lib.Math.min.name Lib.Math.min.code 2 (some .int), Cond.methodLink RX2 212 Lib.Math.max.name]
def wsL_move_r3 : List Cond := [Cond.static Lib.Math.max.name, Cond.code Lib.Math.max.name Lib.Math.max.code 2 (some .int), Cond.methodLink RX2 99 yX2_countCrossings, Cond.static yX2_countCrossings, Cond.code yX2_countCrossings cX2_countCrossings 6 (some .int), Cond.instanceMethod yX1_pieces, Cond.selects RX1 yX1_pieces yX1_pieces, Cond.code yX1_pieces cX1_pieces 1 (some .int), Cond.instanceMethod yX1_pieceCrosses, Cond.selects RX1 yX1_pieceCrosses yX1_pieceCrosses, Cond.code yX1_pieceCrosses cX1_pieceCrosses 4 (some .boolean), Cond.methodLink RX1 44 yX1_leftOf, Cond.instanceMethod yX1_leftOf, Cond.selects RX1 yX1_leftOf yX1_leftOf, Cond.code yX1_leftOf cX1_leftOf 2 (some .int), Cond.methodLink RX1 35 Lib.Math.min.name, Cond.methodLink RX1 47 yX1_lowOf, Cond.instanceMethod yX1_lowOf, Cond.selects RX1 yX1_lowOf yX1_lowOf, Cond.code yX1_lowOf cX1_lowOf 2 (some .int), Cond.methodLink RX1 50 yX1_rightOf, Cond.instanceMethod yX1_rightOf, Cond.selects RX1 yX1_rightOf yX1_rightOf, Cond.code yX1_rightOf cX1_rightOf 2 (some .int)]
def wsL_move_r4 : List Cond := [Cond.methodLink RX1 41 Lib.Math.max.name, Cond.methodLink RX1 53 yX1_highOf, Cond.instanceMethod yX1_highOf, Cond.selects RX1 yX1_highOf yX1_highOf, Cond.code yX1_highOf cX1_highOf 2 (some .int), Cond.methodLink RX1 56 yX1_boxMeets, Cond.instanceMethod yX1_boxMeets, Cond.selects RX1 yX1_boxMeets yX1_boxMeets, Cond.code yX1_boxMeets cX1_boxMeets 6 (some .boolean), Cond.methodLink RX1 60 yX1_lineDivides, Cond.instanceMethod yX1_lineDivides, Cond.selects RX1 yX1_lineDivides yX1_lineDivides, Cond.code yX1_lineDivides cX1_lineDivides 6 (some .boolean), Cond.methodLink RX1 64 yX1_sideOf, Cond.instanceMethod yX1_sideOf, Cond.selects RX1 yX1_sideOf yX1_sideOf, Cond.code yX1_sideOf cX1_sideOf 4 (some .int), Cond.methodLink RX1 28 yX1_width, Cond.instanceMethod yX1_width, Cond.selects RX1 yX1_width yX1_width, Cond.code yX1_width cX1_width 2 (some .int), Cond.methodLink RX1 32 yX1_height, Cond.instanceMethod yX1_height, Cond.selects RX1 yX1_height yX1_height]
def wsL_move_r5 : List Cond := [Cond.code yX1_height cX1_height 2 (some .int), Cond.instanceMethod yX1_pieceIsSteepTo, Cond.selects RX1 yX1_pieceIsSteepTo yX1_pieceIsSteepTo, Cond.code yX1_pieceIsSteepTo cX1_pieceIsSteepTo 8 (some .boolean), Cond.methodLink RX1 68 Lib.Math.abs.name, Cond.static Lib.Math.abs.name, Cond.code Lib.Math.abs.name Lib.Math.abs.code 1 (some .int), Cond.methodLink RX2 89 yX2_dropIfNotWell, Cond.instanceMethod yX2_dropIfNotWell, Cond.selects RX2 yX2_dropIfNotWell yX2_dropIfNotWell, Cond.code yX2_dropIfNotWell cX2_dropIfNotWell 4 (some .int), Cond.fieldLink RX2 31 "CableOffice" "agreed" "[Z", Cond.methodLink RX2 103 yX2_crossWell, Cond.instanceMethod yX2_crossWell, Cond.selects RX2 yX2_crossWell yX2_crossWell, Cond.code yX2_crossWell cX2_crossWell 4 (some .boolean)]
def wsL_move : List Cond := .codeWith yL_move cL_move 7 (some .int) [(0, 14, 17, 25), (0, 14, 21, 13), (0, 14, 25, 15)] :: ((wsL_move_r1 ++ (wsL_move_r2 ++ (wsL_move_r3 ++ (wsL_move_r4 ++ wsL_move_r5)))) ++ wsX20 ++ wsX10 ++ (vx_atS RX2 63 "java/lang/IllegalStateException" ["java/lang/RuntimeException", "java/lang/Exception"]).filter goodWord ++ (vx_atS RX2 194 "java/lang/IndexOutOfBoundsException" ["java/lang/RuntimeException", "java/lang/Exception"]).filter goodWord ++ (vx_atS RX2 117 "java/lang/IllegalArgumentException" ["java/lang/RuntimeException", "java/lang/Exception"]).filter goodWord)
def wsL_point : List Cond := .codeWith yL_point cL_point 5 (some .int) [(0, 10, 13, 25)] :: ([.classLink RL 25 "java/lang/IndexOutOfBoundsException", .methodLink RL 27 yX2_point, .instanceMethod yX2_point, .selects RX2 yX2_point yX2_point, .initialized RX2, .code yX2_point cX2_point 3 (some .int), .fieldLink RX2 16 "CableOffice" "routes" "[LCableOffice$Route;", .methodLink RX2 78 yX2_demandPoint, .instanceMethod yX2_demandPoint, .selects RX2 yX2_demandPoint yX2_demandPoint, .code yX2_demandPoint cX2_demandPoint 3 none, .classLink RX2 190 "java/lang/IndexOutOfBoundsException", .initialized "java/lang/IndexOutOfBoundsException", .methodLink RX2 195 yX2_demandCable, .instanceMethod yX2_demandCable, .selects RX2 yX2_demandCable yX2_demandCable, .code yX2_demandCable cX2_demandCable 2 none, .fieldLink RX2 20 "CableOffice" "cableCount" "I"] ++ wsX20 ++ wsX10 ++ (vx_atS RX2 194 "java/lang/IndexOutOfBoundsException" ["java/lang/RuntimeException", "java/lang/Exception"]).filter goodWord)
def wsL_crossings_r1 : List Cond := [Cond.classLink RL 25 "java/lang/IndexOutOfBoundsException", Cond.methodLink RL 30 yX2_crossings, Cond.instanceMethod yX2_crossings, Cond.selects RX2 yX2_crossings yX2_crossings, Cond.initialized RX2, Cond.code yX2_crossings cX2_crossings 3 (some .int), Cond.fieldLink RX2 24 "CableOffice" "crossed" "[I", Cond.methodLink RX2 93 yX2_demandCables, Cond.instanceMethod yX2_demandCables, Cond.selects RX2 yX2_demandCables yX2_demandCables, Cond.code yX2_demandCables cX2_demandCables 3 none, Cond.methodLink RX2 195 yX2_demandCable, Cond.instanceMethod yX2_demandCable, Cond.selects RX2 yX2_demandCable yX2_demandCable, Cond.code yX2_demandCable cX2_demandCable 2 none, Cond.classLink RX2 190 "java/lang/IndexOutOfBoundsException", Cond.initialized "java/lang/IndexOutOfBoundsException", Cond.fieldLink RX2 20 "CableOffice" "cableCount" "I", Cond.methodLink RX2 96 yX2_pairOf, Cond.static yX2_pairOf, Cond.code yX2_pairOf cX2_pairOf 2 (some .int), Cond.methodLink RX2 207 Lib.Math.min.name, Cond.static Lib.Math.min.name, Cond.initialized "java/lang/Math"]
def wsL_crossings_r2 : List Cond := [Cond.code Lib.Math.min.name Lib.Math.min.code 2 (some .int), Cond.methodLink RX2 212 Lib.Math.max.name, Cond.static Lib.Math.max.name, Cond.code Lib.Math.max.name Lib.Math.max.code 2 (some .int)]
def wsL_crossings : List Cond := .codeWith yL_crossings cL_crossings 5 (some .int) [(0, 10, 13, 25)] :: ((wsL_crossings_r1 ++ wsL_crossings_r2) ++ wsX20 ++ (vx_atS RX2 194 "java/lang/IndexOutOfBoundsException" ["java/lang/RuntimeException", "java/lang/Exception"]).filter goodWord)
def wsL_crossingsAnew_r1 : List Cond := [Cond.classLink RL 25 "java/lang/IndexOutOfBoundsException", Cond.methodLink RL 33 yX2_crossingsAnew, Cond.instanceMethod yX2_crossingsAnew, Cond.selects RX2 yX2_crossingsAnew yX2_crossingsAnew, Cond.initialized RX2, Cond.code yX2_crossingsAnew cX2_crossingsAnew 3 (some .int), Cond.fieldLink RX2 16 "CableOffice" "routes" "[LCableOffice$Route;", Cond.methodLink RX2 93 yX2_demandCables, Cond.instanceMethod yX2_demandCables, Cond.selects RX2 yX2_demandCables yX2_demandCables, Cond.code yX2_demandCables cX2_demandCables 3 none, Cond.methodLink RX2 195 yX2_demandCable, Cond.instanceMethod yX2_demandCable, Cond.selects RX2 yX2_demandCable yX2_demandCable, Cond.code yX2_demandCable cX2_demandCable 2 none, Cond.classLink RX2 190 "java/lang/IndexOutOfBoundsException", Cond.initialized "java/lang/IndexOutOfBoundsException", Cond.fieldLink RX2 20 "CableOffice" "cableCount" "I", Cond.methodLink RX2 99 yX2_countCrossings, Cond.static yX2_countCrossings, Cond.code yX2_countCrossings cX2_countCrossings 6 (some .int), Cond.instanceMethod yX1_pieces, Cond.initialized RX1, Cond.selects RX1 yX1_pieces yX1_pieces]
def wsL_crossingsAnew_r2 : List Cond := [Cond.code yX1_pieces cX1_pieces 1 (some .int), Cond.fieldLink RX1 18 "CableOffice$Route" "points" "I", Cond.instanceMethod yX1_pieceCrosses, Cond.selects RX1 yX1_pieceCrosses yX1_pieceCrosses, Cond.code yX1_pieceCrosses cX1_pieceCrosses 4 (some .boolean), Cond.methodLink RX1 44 yX1_leftOf, Cond.instanceMethod yX1_leftOf, Cond.selects RX1 yX1_leftOf yX1_leftOf, Cond.code yX1_leftOf cX1_leftOf 2 (some .int), Cond.fieldLink RX1 9 "CableOffice$Route" "x" "[I", Cond.methodLink RX1 35 Lib.Math.min.name, Cond.static Lib.Math.min.name, Cond.initialized "java/lang/Math", Cond.code Lib.Math.min.name Lib.Math.min.code 2 (some .int), Cond.methodLink RX1 47 yX1_lowOf, Cond.instanceMethod yX1_lowOf, Cond.selects RX1 yX1_lowOf yX1_lowOf, Cond.code yX1_lowOf cX1_lowOf 2 (some .int), Cond.fieldLink RX1 15 "CableOffice$Route" "y" "[I", Cond.methodLink RX1 50 yX1_rightOf, Cond.instanceMethod yX1_rightOf, Cond.selects RX1 yX1_rightOf yX1_rightOf, Cond.code yX1_rightOf cX1_rightOf 2 (some .int), Cond.methodLink RX1 41 Lib.Math.max.name]
def wsL_crossingsAnew_r3 : List Cond := [Cond.static Lib.Math.max.name, Cond.code Lib.Math.max.name Lib.Math.max.code 2 (some .int), Cond.methodLink RX1 53 yX1_highOf, Cond.instanceMethod yX1_highOf, Cond.selects RX1 yX1_highOf yX1_highOf, Cond.code yX1_highOf cX1_highOf 2 (some .int), Cond.methodLink RX1 56 yX1_boxMeets, Cond.instanceMethod yX1_boxMeets, Cond.selects RX1 yX1_boxMeets yX1_boxMeets, Cond.code yX1_boxMeets cX1_boxMeets 6 (some .boolean), Cond.methodLink RX1 60 yX1_lineDivides, Cond.instanceMethod yX1_lineDivides, Cond.selects RX1 yX1_lineDivides yX1_lineDivides, Cond.code yX1_lineDivides cX1_lineDivides 6 (some .boolean), Cond.methodLink RX1 64 yX1_sideOf, Cond.instanceMethod yX1_sideOf, Cond.selects RX1 yX1_sideOf yX1_sideOf, Cond.code yX1_sideOf cX1_sideOf 4 (some .int), Cond.methodLink RX1 28 yX1_width, Cond.instanceMethod yX1_width, Cond.selects RX1 yX1_width yX1_width, Cond.code yX1_width cX1_width 2 (some .int), Cond.methodLink RX1 32 yX1_height, Cond.instanceMethod yX1_height]
def wsL_crossingsAnew_r4 : List Cond := [Cond.selects RX1 yX1_height yX1_height, Cond.code yX1_height cX1_height 2 (some .int), Cond.instanceMethod yX1_pieceIsSteepTo, Cond.selects RX1 yX1_pieceIsSteepTo yX1_pieceIsSteepTo, Cond.code yX1_pieceIsSteepTo cX1_pieceIsSteepTo 8 (some .boolean), Cond.methodLink RX1 68 Lib.Math.abs.name, Cond.static Lib.Math.abs.name, Cond.code Lib.Math.abs.name Lib.Math.abs.code 1 (some .int)]
def wsL_crossingsAnew : List Cond := .codeWith yL_crossingsAnew cL_crossingsAnew 5 (some .int) [(0, 10, 13, 25)] :: ((wsL_crossingsAnew_r1 ++ (wsL_crossingsAnew_r2 ++ (wsL_crossingsAnew_r3 ++ wsL_crossingsAnew_r4))) ++ wsX20 ++ wsX10 ++ (vx_atS RX2 194 "java/lang/IndexOutOfBoundsException" ["java/lang/RuntimeException", "java/lang/Exception"]).filter goodWord)
def wsL_isWell_r1 : List Cond := [Cond.classLink RL 25 "java/lang/IndexOutOfBoundsException", Cond.methodLink RL 36 yX2_isWell, Cond.instanceMethod yX2_isWell, Cond.selects RX2 yX2_isWell yX2_isWell, Cond.initialized RX2, Cond.code yX2_isWell cX2_isWell 3 (some .boolean), Cond.methodLink RX2 93 yX2_demandCables, Cond.instanceMethod yX2_demandCables, Cond.selects RX2 yX2_demandCables yX2_demandCables, Cond.code yX2_demandCables cX2_demandCables 3 none, Cond.methodLink RX2 195 yX2_demandCable, Cond.instanceMethod yX2_demandCable, Cond.selects RX2 yX2_demandCable yX2_demandCable, Cond.code yX2_demandCable cX2_demandCable 2 none, Cond.classLink RX2 190 "java/lang/IndexOutOfBoundsException", Cond.initialized "java/lang/IndexOutOfBoundsException", Cond.fieldLink RX2 20 "CableOffice" "cableCount" "I", Cond.methodLink RX2 103 yX2_crossWell, Cond.instanceMethod yX2_crossWell, Cond.selects RX2 yX2_crossWell yX2_crossWell, Cond.code yX2_crossWell cX2_crossWell 4 (some .boolean), Cond.fieldLink RX2 24 "CableOffice" "crossed" "[I", Cond.fieldLink RX2 28 "CableOffice" "crossedSteeply" "[I", Cond.methodLink RX2 96 yX2_pairOf]
def wsL_isWell_r2 : List Cond := [Cond.static yX2_pairOf, Cond.code yX2_pairOf cX2_pairOf 2 (some .int), Cond.methodLink RX2 207 Lib.Math.min.name, Cond.static Lib.Math.min.name, Cond.initialized "java/lang/Math", Cond.code Lib.Math.min.name Lib.Math.min.code 2 (some .int), Cond.methodLink RX2 212 Lib.Math.max.name, Cond.static Lib.Math.max.name, Cond.code Lib.Math.max.name Lib.Math.max.code 2 (some .int)]
def wsL_isWell : List Cond := .codeWith yL_isWell cL_isWell 5 (some .int) [(0, 17, 20, 25)] :: ((wsL_isWell_r1 ++ wsL_isWell_r2) ++ wsX20 ++ (vx_atS RX2 194 "java/lang/IndexOutOfBoundsException" ["java/lang/RuntimeException", "java/lang/Exception"]).filter goodWord)
def wsL_agree_r1 : List Cond := [Cond.classLink RL 25 "java/lang/IndexOutOfBoundsException", Cond.classLink RL 15 "java/lang/IllegalStateException", Cond.methodLink RL 40 yX2_agree, Cond.instanceMethod yX2_agree, Cond.selects RX2 yX2_agree yX2_agree, Cond.initialized RX2, Cond.code yX2_agree cX2_agree 4 (some .int), Cond.classLink RX2 59 "java/lang/IllegalStateException", Cond.initialized "java/lang/IllegalStateException", Cond.fieldLink RX2 31 "CableOffice" "agreed" "[Z", Cond.methodLink RX2 93 yX2_demandCables, Cond.instanceMethod yX2_demandCables, Cond.selects RX2 yX2_demandCables yX2_demandCables, Cond.code yX2_demandCables cX2_demandCables 3 none, Cond.methodLink RX2 195 yX2_demandCable, Cond.instanceMethod yX2_demandCable, Cond.selects RX2 yX2_demandCable yX2_demandCable, Cond.code yX2_demandCable cX2_demandCable 2 none, Cond.classLink RX2 190 "java/lang/IndexOutOfBoundsException", Cond.initialized "java/lang/IndexOutOfBoundsException", Cond.fieldLink RX2 20 "CableOffice" "cableCount" "I", Cond.methodLink RX2 96 yX2_pairOf, Cond.static yX2_pairOf, Cond.code yX2_pairOf cX2_pairOf 2 (some .int)]
def wsL_agree_r2 : List Cond := [Cond.methodLink RX2 207 Lib.Math.min.name, Cond.static Lib.Math.min.name, Cond.initialized "java/lang/Math", Cond.code Lib.Math.min.name Lib.Math.min.code 2 (some .int), Cond.methodLink RX2 212 Lib.Math.max.name, Cond.static Lib.Math.max.name, Cond.code Lib.Math.max.name Lib.Math.max.code 2 (some .int), Cond.methodLink RX2 103 yX2_crossWell, Cond.instanceMethod yX2_crossWell, Cond.selects RX2 yX2_crossWell yX2_crossWell, Cond.code yX2_crossWell cX2_crossWell 4 (some .boolean), Cond.fieldLink RX2 24 "CableOffice" "crossed" "[I", Cond.fieldLink RX2 28 "CableOffice" "crossedSteeply" "[I", Cond.methodLink RX2 109 yX2_countBarePairs, Cond.instanceMethod yX2_countBarePairs, Cond.selects RX2 yX2_countBarePairs yX2_countBarePairs, Cond.code yX2_countBarePairs cX2_countBarePairs 5 (some .int)]
def wsL_agree : List Cond := .codeWith yL_agree cL_agree 5 (some .int) [(0, 10, 13, 25), (0, 10, 17, 15)] :: ((wsL_agree_r1 ++ wsL_agree_r2) ++ wsX20 ++ (vx_atS RX2 63 "java/lang/IllegalStateException" ["java/lang/RuntimeException", "java/lang/Exception"]).filter goodWord ++ (vx_atS RX2 194 "java/lang/IndexOutOfBoundsException" ["java/lang/RuntimeException", "java/lang/Exception"]).filter goodWord)
def wsL_isAgreed_r1 : List Cond := [Cond.classLink RL 25 "java/lang/IndexOutOfBoundsException", Cond.methodLink RL 43 yX2_isAgreed, Cond.instanceMethod yX2_isAgreed, Cond.selects RX2 yX2_isAgreed yX2_isAgreed, Cond.initialized RX2, Cond.code yX2_isAgreed cX2_isAgreed 3 (some .boolean), Cond.fieldLink RX2 31 "CableOffice" "agreed" "[Z", Cond.methodLink RX2 93 yX2_demandCables, Cond.instanceMethod yX2_demandCables, Cond.selects RX2 yX2_demandCables yX2_demandCables, Cond.code yX2_demandCables cX2_demandCables 3 none, Cond.methodLink RX2 195 yX2_demandCable, Cond.instanceMethod yX2_demandCable, Cond.selects RX2 yX2_demandCable yX2_demandCable, Cond.code yX2_demandCable cX2_demandCable 2 none, Cond.classLink RX2 190 "java/lang/IndexOutOfBoundsException", Cond.initialized "java/lang/IndexOutOfBoundsException", Cond.fieldLink RX2 20 "CableOffice" "cableCount" "I", Cond.methodLink RX2 96 yX2_pairOf, Cond.static yX2_pairOf, Cond.code yX2_pairOf cX2_pairOf 2 (some .int), Cond.methodLink RX2 207 Lib.Math.min.name, Cond.static Lib.Math.min.name, Cond.initialized "java/lang/Math"]
def wsL_isAgreed_r2 : List Cond := [Cond.code Lib.Math.min.name Lib.Math.min.code 2 (some .int), Cond.methodLink RX2 212 Lib.Math.max.name, Cond.static Lib.Math.max.name, Cond.code Lib.Math.max.name Lib.Math.max.code 2 (some .int)]
def wsL_isAgreed : List Cond := .codeWith yL_isAgreed cL_isAgreed 5 (some .int) [(0, 17, 20, 25)] :: ((wsL_isAgreed_r1 ++ wsL_isAgreed_r2) ++ wsX20 ++ (vx_atS RX2 194 "java/lang/IndexOutOfBoundsException" ["java/lang/RuntimeException", "java/lang/Exception"]).filter goodWord)
def wsL_ground_r1 : List Cond := [Cond.classLink RL 13 "java/lang/IllegalArgumentException", Cond.classLink RL 15 "java/lang/IllegalStateException", Cond.methodLink RL 46 yX2_ground, Cond.instanceMethod yX2_ground, Cond.selects RX2 yX2_ground yX2_ground, Cond.initialized RX2, Cond.code yX2_ground cX2_ground 8 (some .int), Cond.classLink RX2 113 "java/lang/IllegalArgumentException", Cond.initialized "java/lang/IllegalArgumentException", Cond.classLink RX2 59 "java/lang/IllegalStateException", Cond.initialized "java/lang/IllegalStateException", Cond.fieldLink RX2 41 "CableOffice" "groundCount" "I", Cond.fieldLink RX2 37 "CableOffice" "grounds" "[LCableOffice$Ground;", Cond.methodLink RX2 48 yX2_demandPlace, Cond.static yX2_demandPlace, Cond.code yX2_demandPlace cX2_demandPlace 2 none, Cond.methodLink RX2 118 yX2_demandMonth, Cond.static yX2_demandMonth, Cond.code yX2_demandMonth cX2_demandMonth 1 none, Cond.instanceMethod yX0_setBounds, Cond.initialized RX0, Cond.selects RX0 yX0_setBounds yX0_setBounds, Cond.code yX0_setBounds cX0_setBounds 5 none, Cond.fieldLink RX0 7 "CableOffice$Ground" "left" "I"]
def wsL_ground_r2 : List Cond := [Cond.fieldLink RX0 13 "CableOffice$Ground" "low" "I", Cond.fieldLink RX0 16 "CableOffice$Ground" "right" "I", Cond.fieldLink RX0 19 "CableOffice$Ground" "high" "I", Cond.instanceMethod yX0_setMonths, Cond.selects RX0 yX0_setMonths yX0_setMonths, Cond.code yX0_setMonths cX0_setMonths 3 none, Cond.fieldLink RX0 22 "CableOffice$Ground" "from" "I", Cond.fieldLink RX0 25 "CableOffice$Ground" "to" "I"]
def wsL_ground : List Cond := .codeWith yL_ground cL_ground 9 (some .int) [(0, 18, 21, 13), (0, 18, 25, 15)] :: ((wsL_ground_r1 ++ wsL_ground_r2) ++ wsX20 ++ wsX00 ++ (vx_atS RX2 117 "java/lang/IllegalArgumentException" ["java/lang/RuntimeException", "java/lang/Exception"]).filter goodWord ++ (vx_atS RX2 63 "java/lang/IllegalStateException" ["java/lang/RuntimeException", "java/lang/Exception"]).filter goodWord)
def wsL_tell_r1 : List Cond := [Cond.classLink RL 25 "java/lang/IndexOutOfBoundsException", Cond.classLink RL 13 "java/lang/IllegalArgumentException", Cond.classLink RL 15 "java/lang/IllegalStateException", Cond.methodLink RL 50 yX2_tell, Cond.instanceMethod yX2_tell, Cond.selects RX2 yX2_tell yX2_tell, Cond.initialized RX2, Cond.code yX2_tell cX2_tell 4 (some .int), Cond.classLink RX2 113 "java/lang/IllegalArgumentException", Cond.initialized "java/lang/IllegalArgumentException", Cond.classLink RX2 59 "java/lang/IllegalStateException", Cond.initialized "java/lang/IllegalStateException", Cond.constant RX2 134 (1000000), Cond.fieldLink RX2 37 "CableOffice" "grounds" "[LCableOffice$Ground;", Cond.methodLink RX2 131 yX2_demandGround, Cond.instanceMethod yX2_demandGround, Cond.selects RX2 yX2_demandGround yX2_demandGround, Cond.code yX2_demandGround cX2_demandGround 2 none, Cond.classLink RX2 190 "java/lang/IndexOutOfBoundsException", Cond.initialized "java/lang/IndexOutOfBoundsException", Cond.fieldLink RX2 41 "CableOffice" "groundCount" "I", Cond.instanceMethod yX0_price, Cond.initialized RX0, Cond.selects RX0 yX0_price yX0_price]
def wsL_tell_r2 : List Cond := [Cond.code yX0_price cX0_price 1 (some .int), Cond.fieldLink RX0 28 "CableOffice$Ground" "catches" "I", Cond.fieldLink RX0 31 "CableOffice$Ground" "catchSum" "I"]
def wsL_tell : List Cond := .codeWith yL_tell cL_tell 5 (some .int) [(0, 10, 13, 25), (0, 10, 17, 13), (0, 10, 21, 15)] :: ((wsL_tell_r1 ++ wsL_tell_r2) ++ wsX20 ++ wsX00 ++ (vx_atS RX2 117 "java/lang/IllegalArgumentException" ["java/lang/RuntimeException", "java/lang/Exception"]).filter goodWord ++ (vx_atS RX2 63 "java/lang/IllegalStateException" ["java/lang/RuntimeException", "java/lang/Exception"]).filter goodWord ++ (vx_atS RX2 194 "java/lang/IndexOutOfBoundsException" ["java/lang/RuntimeException", "java/lang/Exception"]).filter goodWord)
def wsL_isClosed_r1 : List Cond := [Cond.classLink RL 25 "java/lang/IndexOutOfBoundsException", Cond.classLink RL 13 "java/lang/IllegalArgumentException", Cond.methodLink RL 53 yX2_isClosed, Cond.instanceMethod yX2_isClosed, Cond.selects RX2 yX2_isClosed yX2_isClosed, Cond.initialized RX2, Cond.code yX2_isClosed cX2_isClosed 3 (some .boolean), Cond.fieldLink RX2 37 "CableOffice" "grounds" "[LCableOffice$Ground;", Cond.methodLink RX2 131 yX2_demandGround, Cond.instanceMethod yX2_demandGround, Cond.selects RX2 yX2_demandGround yX2_demandGround, Cond.code yX2_demandGround cX2_demandGround 2 none, Cond.classLink RX2 190 "java/lang/IndexOutOfBoundsException", Cond.initialized "java/lang/IndexOutOfBoundsException", Cond.fieldLink RX2 41 "CableOffice" "groundCount" "I", Cond.methodLink RX2 118 yX2_demandMonth, Cond.static yX2_demandMonth, Cond.code yX2_demandMonth cX2_demandMonth 1 none, Cond.classLink RX2 113 "java/lang/IllegalArgumentException", Cond.initialized "java/lang/IllegalArgumentException", Cond.instanceMethod yX0_isShutIn, Cond.initialized RX0, Cond.selects RX0 yX0_isShutIn yX0_isShutIn, Cond.code yX0_isShutIn cX0_isShutIn 2 (some .boolean)]
def wsL_isClosed_r2 : List Cond := [Cond.fieldLink RX0 22 "CableOffice$Ground" "from" "I", Cond.fieldLink RX0 25 "CableOffice$Ground" "to" "I"]
def wsL_isClosed : List Cond := .codeWith yL_isClosed cL_isClosed 5 (some .int) [(0, 17, 20, 25), (0, 17, 24, 13)] :: ((wsL_isClosed_r1 ++ wsL_isClosed_r2) ++ wsX20 ++ wsX00 ++ (vx_atS RX2 194 "java/lang/IndexOutOfBoundsException" ["java/lang/RuntimeException", "java/lang/Exception"]).filter goodWord ++ (vx_atS RX2 117 "java/lang/IllegalArgumentException" ["java/lang/RuntimeException", "java/lang/Exception"]).filter goodWord)
def wsL_touches_r1 : List Cond := [Cond.classLink RL 25 "java/lang/IndexOutOfBoundsException", Cond.methodLink RL 56 yX2_touches, Cond.instanceMethod yX2_touches, Cond.selects RX2 yX2_touches yX2_touches, Cond.initialized RX2, Cond.code yX2_touches cX2_touches 4 (some .boolean), Cond.fieldLink RX2 16 "CableOffice" "routes" "[LCableOffice$Route;", Cond.fieldLink RX2 37 "CableOffice" "grounds" "[LCableOffice$Ground;", Cond.methodLink RX2 152 yX2_demandPiece, Cond.instanceMethod yX2_demandPiece, Cond.selects RX2 yX2_demandPiece yX2_demandPiece, Cond.code yX2_demandPiece cX2_demandPiece 3 none, Cond.classLink RX2 190 "java/lang/IndexOutOfBoundsException", Cond.initialized "java/lang/IndexOutOfBoundsException", Cond.methodLink RX2 195 yX2_demandCable, Cond.instanceMethod yX2_demandCable, Cond.selects RX2 yX2_demandCable yX2_demandCable, Cond.code yX2_demandCable cX2_demandCable 2 none, Cond.fieldLink RX2 20 "CableOffice" "cableCount" "I", Cond.instanceMethod yX1_pieces, Cond.initialized RX1, Cond.selects RX1 yX1_pieces yX1_pieces, Cond.code yX1_pieces cX1_pieces 1 (some .int), Cond.fieldLink RX1 18 "CableOffice$Route" "points" "I"]
def wsL_touches_r2 : List Cond := [Cond.methodLink RX2 131 yX2_demandGround, Cond.instanceMethod yX2_demandGround, Cond.selects RX2 yX2_demandGround yX2_demandGround, Cond.code yX2_demandGround cX2_demandGround 2 none, Cond.fieldLink RX2 41 "CableOffice" "groundCount" "I", Cond.instanceMethod yX1_pieceMeets, Cond.selects RX1 yX1_pieceMeets yX1_pieceMeets, Cond.code yX1_pieceMeets cX1_pieceMeets 3 (some .boolean), Cond.methodLink RX1 56 yX1_boxMeets, Cond.instanceMethod yX1_boxMeets, Cond.selects RX1 yX1_boxMeets yX1_boxMeets, Cond.code yX1_boxMeets cX1_boxMeets 6 (some .boolean), Cond.methodLink RX1 44 yX1_leftOf, Cond.instanceMethod yX1_leftOf, Cond.selects RX1 yX1_leftOf yX1_leftOf, Cond.code yX1_leftOf cX1_leftOf 2 (some .int), Cond.fieldLink RX1 9 "CableOffice$Route" "x" "[I", Cond.methodLink RX1 35 Lib.Math.min.name, Cond.static Lib.Math.min.name, Cond.initialized "java/lang/Math", Cond.code Lib.Math.min.name Lib.Math.min.code 2 (some .int), Cond.methodLink RX1 50 yX1_rightOf, Cond.instanceMethod yX1_rightOf, Cond.selects RX1 yX1_rightOf yX1_rightOf]
def wsL_touches_r3 : List Cond := [Cond.code yX1_rightOf cX1_rightOf 2 (some .int), Cond.methodLink RX1 41 Lib.Math.max.name, Cond.static Lib.Math.max.name, Cond.code Lib.Math.max.name Lib.Math.max.code 2 (some .int), Cond.methodLink RX1 47 yX1_lowOf, Cond.instanceMethod yX1_lowOf, Cond.selects RX1 yX1_lowOf yX1_lowOf, Cond.code yX1_lowOf cX1_lowOf 2 (some .int), Cond.fieldLink RX1 15 "CableOffice$Route" "y" "[I", Cond.methodLink RX1 53 yX1_highOf, Cond.instanceMethod yX1_highOf, Cond.selects RX1 yX1_highOf yX1_highOf, Cond.code yX1_highOf cX1_highOf 2 (some .int), Cond.methodLink RX1 85 yX1_lineMeets, Cond.instanceMethod yX1_lineMeets, Cond.selects RX1 yX1_lineMeets yX1_lineMeets, Cond.code yX1_lineMeets cX1_lineMeets 7 (some .boolean), Cond.methodLink RX1 64 yX1_sideOf, Cond.instanceMethod yX1_sideOf, Cond.selects RX1 yX1_sideOf yX1_sideOf, Cond.code yX1_sideOf cX1_sideOf 4 (some .int), Cond.methodLink RX1 28 yX1_width, Cond.instanceMethod yX1_width, Cond.selects RX1 yX1_width yX1_width]
def wsL_touches_r4 : List Cond := [Cond.code yX1_width cX1_width 2 (some .int), Cond.methodLink RX1 32 yX1_height, Cond.instanceMethod yX1_height, Cond.selects RX1 yX1_height yX1_height, Cond.code yX1_height cX1_height 2 (some .int)]
def wsL_touches : List Cond := .codeWith yL_touches cL_touches 6 (some .int) [(0, 19, 22, 25)] :: ((wsL_touches_r1 ++ (wsL_touches_r2 ++ (wsL_touches_r3 ++ wsL_touches_r4))) ++ wsX20 ++ wsX10 ++ wsX00 ++ (vx_atS RX2 194 "java/lang/IndexOutOfBoundsException" ["java/lang/RuntimeException", "java/lang/Exception"]).filter goodWord)
def wsL_lifted_r1 : List Cond := [Cond.classLink RL 25 "java/lang/IndexOutOfBoundsException", Cond.methodLink RL 60 yX2_lifted, Cond.instanceMethod yX2_lifted, Cond.selects RX2 yX2_lifted yX2_lifted, Cond.initialized RX2, Cond.code yX2_lifted cX2_lifted 3 (some .int), Cond.methodLink RX2 152 yX2_demandPiece, Cond.instanceMethod yX2_demandPiece, Cond.selects RX2 yX2_demandPiece yX2_demandPiece, Cond.code yX2_demandPiece cX2_demandPiece 3 none, Cond.classLink RX2 190 "java/lang/IndexOutOfBoundsException", Cond.initialized "java/lang/IndexOutOfBoundsException", Cond.fieldLink RX2 16 "CableOffice" "routes" "[LCableOffice$Route;", Cond.methodLink RX2 195 yX2_demandCable, Cond.instanceMethod yX2_demandCable, Cond.selects RX2 yX2_demandCable yX2_demandCable, Cond.code yX2_demandCable cX2_demandCable 2 none, Cond.fieldLink RX2 20 "CableOffice" "cableCount" "I", Cond.instanceMethod yX1_pieces, Cond.initialized RX1, Cond.selects RX1 yX1_pieces yX1_pieces, Cond.code yX1_pieces cX1_pieces 1 (some .int), Cond.fieldLink RX1 18 "CableOffice$Route" "points" "I", Cond.methodLink RX2 159 yX2_liftedWith]
def wsL_lifted_r2 : List Cond := [Cond.instanceMethod yX2_liftedWith, Cond.selects RX2 yX2_liftedWith yX2_liftedWith, Cond.code yX2_liftedWith cX2_liftedWith 7 (some .long), Cond.methodLink RX2 222 yX2_bitOf, Cond.static yX2_bitOf, Cond.code yX2_bitOf cX2_bitOf 2 (some .long), Cond.methodLink RX2 225 yX2_lyingOn, Cond.instanceMethod yX2_lyingOn, Cond.selects RX2 yX2_lyingOn yX2_lyingOn, Cond.code yX2_lyingOn cX2_lyingOn 8 (some .long), Cond.methodLink RX2 229 yX2_liesOnLifted, Cond.instanceMethod yX2_liesOnLifted, Cond.selects RX2 yX2_liesOnLifted yX2_liesOnLifted, Cond.code yX2_liesOnLifted cX2_liesOnLifted 7 (some .boolean), Cond.methodLink RX2 233 yX2_isIn, Cond.static yX2_isIn, Cond.code yX2_isIn cX2_isIn 4 (some .boolean), Cond.instanceMethod yX1_pieceCrosses, Cond.selects RX1 yX1_pieceCrosses yX1_pieceCrosses, Cond.code yX1_pieceCrosses cX1_pieceCrosses 4 (some .boolean), Cond.methodLink RX1 44 yX1_leftOf, Cond.instanceMethod yX1_leftOf, Cond.selects RX1 yX1_leftOf yX1_leftOf, Cond.code yX1_leftOf cX1_leftOf 2 (some .int)]
def wsL_lifted_r3 : List Cond := [Cond.fieldLink RX1 9 "CableOffice$Route" "x" "[I", Cond.methodLink RX1 35 Lib.Math.min.name, Cond.static Lib.Math.min.name, Cond.initialized "java/lang/Math", Cond.code Lib.Math.min.name Lib.Math.min.code 2 (some .int), Cond.methodLink RX1 47 yX1_lowOf, Cond.instanceMethod yX1_lowOf, Cond.selects RX1 yX1_lowOf yX1_lowOf, Cond.code yX1_lowOf cX1_lowOf 2 (some .int), Cond.fieldLink RX1 15 "CableOffice$Route" "y" "[I", Cond.methodLink RX1 50 yX1_rightOf, Cond.instanceMethod yX1_rightOf, Cond.selects RX1 yX1_rightOf yX1_rightOf, Cond.code yX1_rightOf cX1_rightOf 2 (some .int), Cond.methodLink RX1 41 Lib.Math.max.name, Cond.static Lib.Math.max.name, Cond.code Lib.Math.max.name Lib.Math.max.code 2 (some .int), Cond.methodLink RX1 53 yX1_highOf, Cond.instanceMethod yX1_highOf, Cond.selects RX1 yX1_highOf yX1_highOf, Cond.code yX1_highOf cX1_highOf 2 (some .int), Cond.methodLink RX1 56 yX1_boxMeets, Cond.instanceMethod yX1_boxMeets, Cond.selects RX1 yX1_boxMeets yX1_boxMeets]
def wsL_lifted_r4 : List Cond := [Cond.code yX1_boxMeets cX1_boxMeets 6 (some .boolean), Cond.methodLink RX1 60 yX1_lineDivides, Cond.instanceMethod yX1_lineDivides, Cond.selects RX1 yX1_lineDivides yX1_lineDivides, Cond.code yX1_lineDivides cX1_lineDivides 6 (some .boolean), Cond.methodLink RX1 64 yX1_sideOf, Cond.instanceMethod yX1_sideOf, Cond.selects RX1 yX1_sideOf yX1_sideOf, Cond.code yX1_sideOf cX1_sideOf 4 (some .int), Cond.methodLink RX1 28 yX1_width, Cond.instanceMethod yX1_width, Cond.selects RX1 yX1_width yX1_width, Cond.code yX1_width cX1_width 2 (some .int), Cond.methodLink RX1 32 yX1_height, Cond.instanceMethod yX1_height, Cond.selects RX1 yX1_height yX1_height, Cond.code yX1_height cX1_height 2 (some .int), Cond.methodLink RX2 163 yJ13_bitCount_95d88, Cond.static yJ13_bitCount_95d88, Cond.initialized RJ13, Cond.code yJ13_bitCount_95d88 cJ13_bitCount_95d88 2 (some .int), Cond.constantLong RJ13 314 (6148914691236517205), Cond.constantLong RJ13 316 (3689348814741910323), Cond.constantLong RJ13 318 (1085102592571150095)]
def wsL_lifted : List Cond := .codeWith yL_lifted cL_lifted 5 (some .int) [(0, 10, 13, 25)] :: ((wsL_lifted_r1 ++ (wsL_lifted_r2 ++ (wsL_lifted_r3 ++ wsL_lifted_r4))) ++ wsX20 ++ wsX10 ++ (vx_atS RX2 194 "java/lang/IndexOutOfBoundsException" ["java/lang/RuntimeException", "java/lang/Exception"]).filter goodWord)
def wsL_cost_r1 : List Cond := [Cond.classLink RL 25 "java/lang/IndexOutOfBoundsException", Cond.classLink RL 13 "java/lang/IllegalArgumentException", Cond.methodLink RL 63 yX2_cost, Cond.instanceMethod yX2_cost, Cond.selects RX2 yX2_cost yX2_cost, Cond.initialized RX2, Cond.code yX2_cost cX2_cost 6 (some .int), Cond.methodLink RX2 152 yX2_demandPiece, Cond.instanceMethod yX2_demandPiece, Cond.selects RX2 yX2_demandPiece yX2_demandPiece, Cond.code yX2_demandPiece cX2_demandPiece 3 none, Cond.classLink RX2 190 "java/lang/IndexOutOfBoundsException", Cond.initialized "java/lang/IndexOutOfBoundsException", Cond.fieldLink RX2 16 "CableOffice" "routes" "[LCableOffice$Route;", Cond.methodLink RX2 195 yX2_demandCable, Cond.instanceMethod yX2_demandCable, Cond.selects RX2 yX2_demandCable yX2_demandCable, Cond.code yX2_demandCable cX2_demandCable 2 none, Cond.fieldLink RX2 20 "CableOffice" "cableCount" "I", Cond.instanceMethod yX1_pieces, Cond.initialized RX1, Cond.selects RX1 yX1_pieces yX1_pieces, Cond.code yX1_pieces cX1_pieces 1 (some .int), Cond.fieldLink RX1 18 "CableOffice$Route" "points" "I"]
def wsL_cost_r2 : List Cond := [Cond.methodLink RX2 118 yX2_demandMonth, Cond.static yX2_demandMonth, Cond.code yX2_demandMonth cX2_demandMonth 1 none, Cond.classLink RX2 113 "java/lang/IllegalArgumentException", Cond.initialized "java/lang/IllegalArgumentException", Cond.methodLink RX2 159 yX2_liftedWith, Cond.instanceMethod yX2_liftedWith, Cond.selects RX2 yX2_liftedWith yX2_liftedWith, Cond.code yX2_liftedWith cX2_liftedWith 7 (some .long), Cond.methodLink RX2 222 yX2_bitOf, Cond.static yX2_bitOf, Cond.code yX2_bitOf cX2_bitOf 2 (some .long), Cond.methodLink RX2 225 yX2_lyingOn, Cond.instanceMethod yX2_lyingOn, Cond.selects RX2 yX2_lyingOn yX2_lyingOn, Cond.code yX2_lyingOn cX2_lyingOn 8 (some .long), Cond.methodLink RX2 229 yX2_liesOnLifted, Cond.instanceMethod yX2_liesOnLifted, Cond.selects RX2 yX2_liesOnLifted yX2_liesOnLifted, Cond.code yX2_liesOnLifted cX2_liesOnLifted 7 (some .boolean), Cond.methodLink RX2 233 yX2_isIn, Cond.static yX2_isIn, Cond.code yX2_isIn cX2_isIn 4 (some .boolean), Cond.instanceMethod yX1_pieceCrosses]
def wsL_cost_r3 : List Cond := [Cond.selects RX1 yX1_pieceCrosses yX1_pieceCrosses, Cond.code yX1_pieceCrosses cX1_pieceCrosses 4 (some .boolean), Cond.methodLink RX1 44 yX1_leftOf, Cond.instanceMethod yX1_leftOf, Cond.selects RX1 yX1_leftOf yX1_leftOf, Cond.code yX1_leftOf cX1_leftOf 2 (some .int), Cond.fieldLink RX1 9 "CableOffice$Route" "x" "[I", Cond.methodLink RX1 35 Lib.Math.min.name, Cond.static Lib.Math.min.name, Cond.initialized "java/lang/Math", Cond.code Lib.Math.min.name Lib.Math.min.code 2 (some .int), Cond.methodLink RX1 47 yX1_lowOf, Cond.instanceMethod yX1_lowOf, Cond.selects RX1 yX1_lowOf yX1_lowOf, Cond.code yX1_lowOf cX1_lowOf 2 (some .int), Cond.fieldLink RX1 15 "CableOffice$Route" "y" "[I", Cond.methodLink RX1 50 yX1_rightOf, Cond.instanceMethod yX1_rightOf, Cond.selects RX1 yX1_rightOf yX1_rightOf, Cond.code yX1_rightOf cX1_rightOf 2 (some .int), Cond.methodLink RX1 41 Lib.Math.max.name, Cond.static Lib.Math.max.name, Cond.code Lib.Math.max.name Lib.Math.max.code 2 (some .int), Cond.methodLink RX1 53 yX1_highOf]
def wsL_cost_r4 : List Cond := [Cond.instanceMethod yX1_highOf, Cond.selects RX1 yX1_highOf yX1_highOf, Cond.code yX1_highOf cX1_highOf 2 (some .int), Cond.methodLink RX1 56 yX1_boxMeets, Cond.instanceMethod yX1_boxMeets, Cond.selects RX1 yX1_boxMeets yX1_boxMeets, Cond.code yX1_boxMeets cX1_boxMeets 6 (some .boolean), Cond.methodLink RX1 60 yX1_lineDivides, Cond.instanceMethod yX1_lineDivides, Cond.selects RX1 yX1_lineDivides yX1_lineDivides, Cond.code yX1_lineDivides cX1_lineDivides 6 (some .boolean), Cond.methodLink RX1 64 yX1_sideOf, Cond.instanceMethod yX1_sideOf, Cond.selects RX1 yX1_sideOf yX1_sideOf, Cond.code yX1_sideOf cX1_sideOf 4 (some .int), Cond.methodLink RX1 28 yX1_width, Cond.instanceMethod yX1_width, Cond.selects RX1 yX1_width yX1_width, Cond.code yX1_width cX1_width 2 (some .int), Cond.methodLink RX1 32 yX1_height, Cond.instanceMethod yX1_height, Cond.selects RX1 yX1_height yX1_height, Cond.code yX1_height cX1_height 2 (some .int), Cond.methodLink RX2 169 yX2_isPossible]
def wsL_cost_r5 : List Cond := [Cond.instanceMethod yX2_isPossible, Cond.selects RX2 yX2_isPossible yX2_isPossible, Cond.code yX2_isPossible cX2_isPossible 5 (some .boolean), Cond.fieldLink RX2 31 "CableOffice" "agreed" "[Z", Cond.methodLink RX2 96 yX2_pairOf, Cond.static yX2_pairOf, Cond.code yX2_pairOf cX2_pairOf 2 (some .int), Cond.methodLink RX2 207 Lib.Math.min.name, Cond.methodLink RX2 212 Lib.Math.max.name, Cond.methodLink RX2 173 yX2_costOf, Cond.instanceMethod yX2_costOf, Cond.selects RX2 yX2_costOf yX2_costOf, Cond.code yX2_costOf cX2_costOf 6 (some .int), Cond.fieldLink RX2 41 "CableOffice" "groundCount" "I", Cond.fieldLink RX2 37 "CableOffice" "grounds" "[LCableOffice$Ground;", Cond.methodLink RX2 163 yJ13_bitCount_95d88, Cond.static yJ13_bitCount_95d88, Cond.initialized RJ13, Cond.code yJ13_bitCount_95d88 cJ13_bitCount_95d88 2 (some .int), Cond.constantLong RJ13 314 (6148914691236517205), Cond.constantLong RJ13 316 (3689348814741910323), Cond.constantLong RJ13 318 (1085102592571150095), Cond.methodLink RX2 237 yX2_isOwed, Cond.instanceMethod yX2_isOwed]
def wsL_cost_r6 : List Cond := [Cond.selects RX2 yX2_isOwed yX2_isOwed, Cond.code yX2_isOwed cX2_isOwed 5 (some .boolean), Cond.instanceMethod yX0_isShutIn, Cond.initialized RX0, Cond.selects RX0 yX0_isShutIn yX0_isShutIn, Cond.code yX0_isShutIn cX0_isShutIn 2 (some .boolean), Cond.fieldLink RX0 22 "CableOffice$Ground" "from" "I", Cond.fieldLink RX0 25 "CableOffice$Ground" "to" "I", Cond.methodLink RX2 241 yX2_isMetByAny, Cond.instanceMethod yX2_isMetByAny, Cond.selects RX2 yX2_isMetByAny yX2_isMetByAny, Cond.code yX2_isMetByAny cX2_isMetByAny 6 (some .boolean), Cond.instanceMethod yX1_pieceMeets, Cond.selects RX1 yX1_pieceMeets yX1_pieceMeets, Cond.code yX1_pieceMeets cX1_pieceMeets 3 (some .boolean), Cond.methodLink RX1 85 yX1_lineMeets, Cond.instanceMethod yX1_lineMeets, Cond.selects RX1 yX1_lineMeets yX1_lineMeets, Cond.code yX1_lineMeets cX1_lineMeets 7 (some .boolean), Cond.instanceMethod yX0_price, Cond.selects RX0 yX0_price yX0_price, Cond.code yX0_price cX0_price 1 (some .int), Cond.fieldLink RX0 28 "CableOffice$Ground" "catches" "I", Cond.fieldLink RX0 31 "CableOffice$Ground" "catchSum" "I"]
def wsL_cost : List Cond := .codeWith yL_cost cL_cost 6 (some .int) [(0, 12, 15, 25), (0, 12, 19, 13)] :: ((wsL_cost_r1 ++ (wsL_cost_r2 ++ (wsL_cost_r3 ++ (wsL_cost_r4 ++ (wsL_cost_r5 ++ wsL_cost_r6))))) ++ wsX20 ++ wsX10 ++ wsX00 ++ (vx_atS RX2 194 "java/lang/IndexOutOfBoundsException" ["java/lang/RuntimeException", "java/lang/Exception"]).filter goodWord ++ (vx_atS RX2 117 "java/lang/IllegalArgumentException" ["java/lang/RuntimeException", "java/lang/Exception"]).filter goodWord)
def wsL_repair_r1 : List Cond := [Cond.classLink RL 25 "java/lang/IndexOutOfBoundsException", Cond.classLink RL 13 "java/lang/IllegalArgumentException", Cond.classLink RL 15 "java/lang/IllegalStateException", Cond.methodLink RL 67 yX2_repair, Cond.instanceMethod yX2_repair, Cond.selects RX2 yX2_repair yX2_repair, Cond.initialized RX2, Cond.code yX2_repair cX2_repair 6 (some .int), Cond.classLink RX2 59 "java/lang/IllegalStateException", Cond.initialized "java/lang/IllegalStateException", Cond.fieldLink RX2 44 "CableOffice" "repairCount" "I", Cond.methodLink RX2 152 yX2_demandPiece, Cond.instanceMethod yX2_demandPiece, Cond.selects RX2 yX2_demandPiece yX2_demandPiece, Cond.code yX2_demandPiece cX2_demandPiece 3 none, Cond.classLink RX2 190 "java/lang/IndexOutOfBoundsException", Cond.initialized "java/lang/IndexOutOfBoundsException", Cond.fieldLink RX2 16 "CableOffice" "routes" "[LCableOffice$Route;", Cond.methodLink RX2 195 yX2_demandCable, Cond.instanceMethod yX2_demandCable, Cond.selects RX2 yX2_demandCable yX2_demandCable, Cond.code yX2_demandCable cX2_demandCable 2 none, Cond.fieldLink RX2 20 "CableOffice" "cableCount" "I", Cond.instanceMethod yX1_pieces]
def wsL_repair_r2 : List Cond := [Cond.initialized RX1, Cond.selects RX1 yX1_pieces yX1_pieces, Cond.code yX1_pieces cX1_pieces 1 (some .int), Cond.fieldLink RX1 18 "CableOffice$Route" "points" "I", Cond.methodLink RX2 118 yX2_demandMonth, Cond.static yX2_demandMonth, Cond.code yX2_demandMonth cX2_demandMonth 1 none, Cond.classLink RX2 113 "java/lang/IllegalArgumentException", Cond.initialized "java/lang/IllegalArgumentException", Cond.methodLink RX2 159 yX2_liftedWith, Cond.instanceMethod yX2_liftedWith, Cond.selects RX2 yX2_liftedWith yX2_liftedWith, Cond.code yX2_liftedWith cX2_liftedWith 7 (some .long), Cond.methodLink RX2 222 yX2_bitOf, Cond.static yX2_bitOf, Cond.code yX2_bitOf cX2_bitOf 2 (some .long), Cond.methodLink RX2 225 yX2_lyingOn, Cond.instanceMethod yX2_lyingOn, Cond.selects RX2 yX2_lyingOn yX2_lyingOn, Cond.code yX2_lyingOn cX2_lyingOn 8 (some .long), Cond.methodLink RX2 229 yX2_liesOnLifted, Cond.instanceMethod yX2_liesOnLifted, Cond.selects RX2 yX2_liesOnLifted yX2_liesOnLifted, Cond.code yX2_liesOnLifted cX2_liesOnLifted 7 (some .boolean)]
def wsL_repair_r3 : List Cond := [Cond.methodLink RX2 233 yX2_isIn, Cond.static yX2_isIn, Cond.code yX2_isIn cX2_isIn 4 (some .boolean), Cond.instanceMethod yX1_pieceCrosses, Cond.selects RX1 yX1_pieceCrosses yX1_pieceCrosses, Cond.code yX1_pieceCrosses cX1_pieceCrosses 4 (some .boolean), Cond.methodLink RX1 44 yX1_leftOf, Cond.instanceMethod yX1_leftOf, Cond.selects RX1 yX1_leftOf yX1_leftOf, Cond.code yX1_leftOf cX1_leftOf 2 (some .int), Cond.fieldLink RX1 9 "CableOffice$Route" "x" "[I", Cond.methodLink RX1 35 Lib.Math.min.name, Cond.static Lib.Math.min.name, Cond.initialized "java/lang/Math", Cond.code Lib.Math.min.name Lib.Math.min.code 2 (some .int), Cond.methodLink RX1 47 yX1_lowOf, Cond.instanceMethod yX1_lowOf, Cond.selects RX1 yX1_lowOf yX1_lowOf, Cond.code yX1_lowOf cX1_lowOf 2 (some .int), Cond.fieldLink RX1 15 "CableOffice$Route" "y" "[I", Cond.methodLink RX1 50 yX1_rightOf, Cond.instanceMethod yX1_rightOf, Cond.selects RX1 yX1_rightOf yX1_rightOf, Cond.code yX1_rightOf cX1_rightOf 2 (some .int)]
def wsL_repair_r4 : List Cond := [Cond.methodLink RX1 41 Lib.Math.max.name, Cond.static Lib.Math.max.name, Cond.code Lib.Math.max.name Lib.Math.max.code 2 (some .int), Cond.methodLink RX1 53 yX1_highOf, Cond.instanceMethod yX1_highOf, Cond.selects RX1 yX1_highOf yX1_highOf, Cond.code yX1_highOf cX1_highOf 2 (some .int), Cond.methodLink RX1 56 yX1_boxMeets, Cond.instanceMethod yX1_boxMeets, Cond.selects RX1 yX1_boxMeets yX1_boxMeets, Cond.code yX1_boxMeets cX1_boxMeets 6 (some .boolean), Cond.methodLink RX1 60 yX1_lineDivides, Cond.instanceMethod yX1_lineDivides, Cond.selects RX1 yX1_lineDivides yX1_lineDivides, Cond.code yX1_lineDivides cX1_lineDivides 6 (some .boolean), Cond.methodLink RX1 64 yX1_sideOf, Cond.instanceMethod yX1_sideOf, Cond.selects RX1 yX1_sideOf yX1_sideOf, Cond.code yX1_sideOf cX1_sideOf 4 (some .int), Cond.methodLink RX1 28 yX1_width, Cond.instanceMethod yX1_width, Cond.selects RX1 yX1_width yX1_width, Cond.code yX1_width cX1_width 2 (some .int), Cond.methodLink RX1 32 yX1_height]
def wsL_repair_r5 : List Cond := [Cond.instanceMethod yX1_height, Cond.selects RX1 yX1_height yX1_height, Cond.code yX1_height cX1_height 2 (some .int), Cond.methodLink RX2 169 yX2_isPossible, Cond.instanceMethod yX2_isPossible, Cond.selects RX2 yX2_isPossible yX2_isPossible, Cond.code yX2_isPossible cX2_isPossible 5 (some .boolean), Cond.fieldLink RX2 31 "CableOffice" "agreed" "[Z", Cond.methodLink RX2 96 yX2_pairOf, Cond.static yX2_pairOf, Cond.code yX2_pairOf cX2_pairOf 2 (some .int), Cond.methodLink RX2 207 Lib.Math.min.name, Cond.methodLink RX2 212 Lib.Math.max.name, Cond.methodLink RX2 179 yX2_payGrounds, Cond.instanceMethod yX2_payGrounds, Cond.selects RX2 yX2_payGrounds yX2_payGrounds, Cond.code yX2_payGrounds cX2_payGrounds 5 none, Cond.fieldLink RX2 41 "CableOffice" "groundCount" "I", Cond.fieldLink RX2 37 "CableOffice" "grounds" "[LCableOffice$Ground;", Cond.methodLink RX2 237 yX2_isOwed, Cond.instanceMethod yX2_isOwed, Cond.selects RX2 yX2_isOwed yX2_isOwed, Cond.code yX2_isOwed cX2_isOwed 5 (some .boolean), Cond.instanceMethod yX0_isShutIn]
def wsL_repair_r6 : List Cond := [Cond.initialized RX0, Cond.selects RX0 yX0_isShutIn yX0_isShutIn, Cond.code yX0_isShutIn cX0_isShutIn 2 (some .boolean), Cond.fieldLink RX0 22 "CableOffice$Ground" "from" "I", Cond.fieldLink RX0 25 "CableOffice$Ground" "to" "I", Cond.methodLink RX2 241 yX2_isMetByAny, Cond.instanceMethod yX2_isMetByAny, Cond.selects RX2 yX2_isMetByAny yX2_isMetByAny, Cond.code yX2_isMetByAny cX2_isMetByAny 6 (some .boolean), Cond.instanceMethod yX1_pieceMeets, Cond.selects RX1 yX1_pieceMeets yX1_pieceMeets, Cond.code yX1_pieceMeets cX1_pieceMeets 3 (some .boolean), Cond.methodLink RX1 85 yX1_lineMeets, Cond.instanceMethod yX1_lineMeets, Cond.selects RX1 yX1_lineMeets yX1_lineMeets, Cond.code yX1_lineMeets cX1_lineMeets 7 (some .boolean), Cond.instanceMethod yX0_price, Cond.selects RX0 yX0_price yX0_price, Cond.code yX0_price cX0_price 1 (some .int), Cond.fieldLink RX0 28 "CableOffice$Ground" "catches" "I", Cond.fieldLink RX0 31 "CableOffice$Ground" "catchSum" "I", Cond.methodLink RX2 173 yX2_costOf, Cond.instanceMethod yX2_costOf, Cond.selects RX2 yX2_costOf yX2_costOf]
def wsL_repair_r7 : List Cond := [Cond.code yX2_costOf cX2_costOf 6 (some .int), Cond.methodLink RX2 163 yJ13_bitCount_95d88, Cond.static yJ13_bitCount_95d88, Cond.initialized RJ13, Cond.code yJ13_bitCount_95d88 cJ13_bitCount_95d88 2 (some .int), Cond.constantLong RJ13 314 (6148914691236517205), Cond.constantLong RJ13 316 (3689348814741910323), Cond.constantLong RJ13 318 (1085102592571150095)]
def wsL_repair : List Cond := .codeWith yL_repair cL_repair 6 (some .int) [(0, 12, 15, 25), (0, 12, 19, 13), (0, 12, 23, 15)] :: ((wsL_repair_r1 ++ (wsL_repair_r2 ++ (wsL_repair_r3 ++ (wsL_repair_r4 ++ (wsL_repair_r5 ++ (wsL_repair_r6 ++ wsL_repair_r7)))))) ++ wsX20 ++ wsX10 ++ wsX00 ++ (vx_atS RX2 63 "java/lang/IllegalStateException" ["java/lang/RuntimeException", "java/lang/Exception"]).filter goodWord ++ (vx_atS RX2 194 "java/lang/IndexOutOfBoundsException" ["java/lang/RuntimeException", "java/lang/Exception"]).filter goodWord ++ (vx_atS RX2 117 "java/lang/IllegalArgumentException" ["java/lang/RuntimeException", "java/lang/Exception"]).filter goodWord)
def wsL_paid : List Cond := .codeWith yL_paid cL_paid 4 (some .int) [(0, 9, 12, 25)] :: ([.classLink RL 25 "java/lang/IndexOutOfBoundsException", .methodLink RL 70 yX2_paid, .instanceMethod yX2_paid, .selects RX2 yX2_paid yX2_paid, .initialized RX2, .code yX2_paid cX2_paid 2 (some .int), .fieldLink RX2 37 "CableOffice" "grounds" "[LCableOffice$Ground;", .methodLink RX2 131 yX2_demandGround, .instanceMethod yX2_demandGround, .selects RX2 yX2_demandGround yX2_demandGround, .code yX2_demandGround cX2_demandGround 2 none, .classLink RX2 190 "java/lang/IndexOutOfBoundsException", .initialized "java/lang/IndexOutOfBoundsException", .fieldLink RX2 41 "CableOffice" "groundCount" "I"] ++ wsX20 ++ wsX00 ++ (vx_atS RX2 194 "java/lang/IndexOutOfBoundsException" ["java/lang/RuntimeException", "java/lang/Exception"]).filter goodWord)
def wsL_law0_r1 : List Cond := [Cond.classLink RL 8 RX2, Cond.instantiable RX2 9, Cond.initialized RX2, Cond.classLink RL 75 RX3, Cond.instantiable RX3 22, Cond.initialized RX3, Cond.arrayClass .long, Cond.methodLink RL 74 yX2_init, Cond.instanceMethod yX2_init, Cond.code yX2_init cX2_init 2 none, Cond.methodLink RX2 1 objectInit, Cond.instanceMethod objectInit, Cond.code objectInit ⟨#[0xb1]⟩ 1 none, Cond.classLink RX2 7 RX1, Cond.instantiable RX1 3, Cond.initialized RX1, Cond.fieldLink RX2 10 "CableOffice" "draftRoute" "LCableOffice$Route;", Cond.fieldLink RX2 16 "CableOffice" "routes" "[LCableOffice$Route;", Cond.fieldLink RX2 20 "CableOffice" "cableCount" "I", Cond.arrayClass .int, Cond.fieldLink RX2 24 "CableOffice" "crossed" "[I", Cond.fieldLink RX2 28 "CableOffice" "crossedSteeply" "[I", Cond.arrayClass .boolean, Cond.fieldLink RX2 31 "CableOffice" "agreed" "[Z"]
def wsL_law0_r2 : List Cond := [Cond.classLink RX2 35 RX0, Cond.fieldLink RX2 37 "CableOffice" "grounds" "[LCableOffice$Ground;", Cond.fieldLink RX2 41 "CableOffice" "groundCount" "I", Cond.fieldLink RX2 44 "CableOffice" "repairCount" "I", Cond.instantiable RX0 9, Cond.initialized RX0, Cond.instanceMethod yX1_init, Cond.code yX1_init cX1_init 1 none, Cond.methodLink RX1 3 objectInit, Cond.fieldLink RX1 9 "CableOffice$Route" "x" "[I", Cond.fieldLink RX1 15 "CableOffice$Route" "y" "[I", Cond.fieldLink RX1 18 "CableOffice$Route" "points" "I", Cond.instanceMethod yX0_init, Cond.code yX0_init cX0_init 1 none, Cond.methodLink RX0 1 objectInit, Cond.fieldLink RX0 7 "CableOffice$Ground" "left" "I", Cond.fieldLink RX0 13 "CableOffice$Ground" "low" "I", Cond.fieldLink RX0 16 "CableOffice$Ground" "right" "I", Cond.fieldLink RX0 19 "CableOffice$Ground" "high" "I", Cond.fieldLink RX0 22 "CableOffice$Ground" "from" "I", Cond.fieldLink RX0 25 "CableOffice$Ground" "to" "I", Cond.fieldLink RX0 28 "CableOffice$Ground" "catches" "I", Cond.fieldLink RX0 31 "CableOffice$Ground" "catchSum" "I", Cond.fieldLink RX0 34 "CableOffice$Ground" "paidSum" "I"]
def wsL_law0_r3 : List Cond := [Cond.methodLink RL 77 yX3_init, Cond.instanceMethod yX3_init, Cond.code yX3_init cX3_init 1 none, Cond.methodLink RX3 1 objectInit, Cond.fieldLink RX3 7 "CableOfficeModel" "draftXs" "[I", Cond.fieldLink RX3 13 "CableOfficeModel" "draftYs" "[I", Cond.fieldLink RX3 16 "CableOfficeModel" "counts" "[I", Cond.fieldLink RX3 19 "CableOfficeModel" "xs" "[I", Cond.fieldLink RX3 22 "CableOfficeModel" "ys" "[I", Cond.fieldLink RX3 25 "CableOfficeModel" "areAgreed" "[Z", Cond.fieldLink RX3 29 "CableOfficeModel" "lefts" "[I", Cond.fieldLink RX3 32 "CableOfficeModel" "lows" "[I", Cond.fieldLink RX3 35 "CableOfficeModel" "rights" "[I", Cond.fieldLink RX3 38 "CableOfficeModel" "highs" "[I", Cond.fieldLink RX3 41 "CableOfficeModel" "froms" "[I", Cond.fieldLink RX3 44 "CableOfficeModel" "tos" "[I", Cond.fieldLink RX3 47 "CableOfficeModel" "sums" "[I", Cond.fieldLink RX3 50 "CableOfficeModel" "years" "[I", Cond.fieldLink RX3 53 "CableOfficeModel" "paid" "[I", Cond.fieldLink RX3 56 "CableOfficeModel" "areLifted" "[Z", Cond.fieldLink RX3 59 "CableOfficeModel" "row" "[I", Cond.methodLink RL 78 yL_draft, Cond.static yL_draft, Cond.initialized RL]
def wsL_law0_r4 : List Cond := [Cond.codeWith yL_draft cL_draft 5 (some .int) [(0, 10, 13, 13), (0, 10, 17, 15)], Cond.classLink RL 13 "java/lang/IllegalArgumentException", Cond.classLink RL 15 "java/lang/IllegalStateException", Cond.methodLink RL 7 yX2_draft, Cond.instanceMethod yX2_draft, Cond.selects RX2 yX2_draft yX2_draft, Cond.code yX2_draft cX2_draft 3 (some .int), Cond.classLink RX2 59 "java/lang/IllegalStateException", Cond.initialized "java/lang/IllegalStateException", Cond.methodLink RX2 48 yX2_demandPlace, Cond.static yX2_demandPlace, Cond.code yX2_demandPlace cX2_demandPlace 2 none, Cond.classLink RX2 113 "java/lang/IllegalArgumentException", Cond.initialized "java/lang/IllegalArgumentException", Cond.instanceMethod yX1_isAt, Cond.selects RX1 yX1_isAt yX1_isAt, Cond.code yX1_isAt cX1_isAt 4 (some .boolean), Cond.instanceMethod yX1_add, Cond.selects RX1 yX1_add yX1_add, Cond.code yX1_add cX1_add 3 none, Cond.methodLink RL 83 yX3_draft, Cond.instanceMethod yX3_draft, Cond.selects RX3 yX3_draft yX3_draft, Cond.code yX3_draft cX3_draft 4 (some .int)]
def wsL_law0_r5 : List Cond := [Cond.fieldLink RX3 77 "CableOfficeModel" "drafted" "I", Cond.methodLink RX3 80 yX3_isPlace, Cond.static yX3_isPlace, Cond.code yX3_isPlace cX3_isPlace 2 (some .boolean), Cond.methodLink RX3 66 yX3_in, Cond.static yX3_in, Cond.code yX3_in cX3_in 3 (some .boolean), Cond.methodLink RX3 84 yX3_holds, Cond.instanceMethod yX3_holds, Cond.selects RX3 yX3_holds yX3_holds, Cond.code yX3_holds cX3_holds 2 (some .boolean), Cond.fieldLink RX3 62 "CableOfficeModel" "thrown" "I", Cond.methodLink RL 84 yX3_thrown, Cond.instanceMethod yX3_thrown, Cond.selects RX3 yX3_thrown yX3_thrown, Cond.code yX3_thrown cX3_thrown 1 (some .int), Cond.methodLink RL 87 yL_lay, Cond.static yL_lay, Cond.codeWith yL_lay cL_lay 3 (some .int) [(0, 8, 11, 15)], Cond.methodLink RL 17 yX2_lay, Cond.instanceMethod yX2_lay, Cond.selects RX2 yX2_lay yX2_lay, Cond.code yX2_lay cX2_lay 3 (some .int), Cond.instanceMethod yX1_takeAllOf]
def wsL_law0_r6 : List Cond := [Cond.selects RX1 yX1_takeAllOf yX1_takeAllOf, Cond.code yX1_takeAllOf cX1_takeAllOf 2 none, Cond.methodLink RX1 22 arraycopyName, Cond.native arraycopyName, Cond.static arraycopyName, Cond.initialized "java/lang/System", Cond.methodLink RX2 75 yX2_recount, Cond.instanceMethod yX2_recount, Cond.selects RX2 yX2_recount yX2_recount, Cond.code yX2_recount cX2_recount 4 none, Cond.methodLink RX2 96 yX2_pairOf, Cond.static yX2_pairOf, Cond.code yX2_pairOf cX2_pairOf 2 (some .int), Cond.methodLink RX2 207 Lib.Math.min.name, Cond.static Lib.Math.min.name, Cond.initialized "java/lang/Math", Cond.code Lib.Math.min.name Lib.Math.min.code 2 (some .int), Cond.methodLink RX2 212 Lib.Math.max.name, Cond.static Lib.Math.max.name, Cond.code Lib.Math.max.name Lib.Math.max.code 2 (some .int), Cond.methodLink RX2 99 yX2_countCrossings, Cond.static yX2_countCrossings, Cond.code yX2_countCrossings cX2_countCrossings 6 (some .int), Cond.instanceMethod yX1_pieces]
def wsL_law0_r7 : List Cond := [Cond.selects RX1 yX1_pieces yX1_pieces, Cond.code yX1_pieces cX1_pieces 1 (some .int), Cond.instanceMethod yX1_pieceCrosses, Cond.selects RX1 yX1_pieceCrosses yX1_pieceCrosses, Cond.code yX1_pieceCrosses cX1_pieceCrosses 4 (some .boolean), Cond.methodLink RX1 44 yX1_leftOf, Cond.instanceMethod yX1_leftOf, Cond.selects RX1 yX1_leftOf yX1_leftOf, Cond.code yX1_leftOf cX1_leftOf 2 (some .int), Cond.methodLink RX1 35 Lib.Math.min.name, Cond.methodLink RX1 47 yX1_lowOf, Cond.instanceMethod yX1_lowOf, Cond.selects RX1 yX1_lowOf yX1_lowOf, Cond.code yX1_lowOf cX1_lowOf 2 (some .int), Cond.methodLink RX1 50 yX1_rightOf, Cond.instanceMethod yX1_rightOf, Cond.selects RX1 yX1_rightOf yX1_rightOf, Cond.code yX1_rightOf cX1_rightOf 2 (some .int), Cond.methodLink RX1 41 Lib.Math.max.name, Cond.methodLink RX1 53 yX1_highOf, Cond.instanceMethod yX1_highOf, Cond.selects RX1 yX1_highOf yX1_highOf, Cond.code yX1_highOf cX1_highOf 2 (some .int), Cond.methodLink RX1 56 yX1_boxMeets]
def wsL_law0_r8 : List Cond := [Cond.instanceMethod yX1_boxMeets, Cond.selects RX1 yX1_boxMeets yX1_boxMeets, Cond.code yX1_boxMeets cX1_boxMeets 6 (some .boolean), Cond.methodLink RX1 60 yX1_lineDivides, Cond.instanceMethod yX1_lineDivides, Cond.selects RX1 yX1_lineDivides yX1_lineDivides, Cond.code yX1_lineDivides cX1_lineDivides 6 (some .boolean), Cond.methodLink RX1 64 yX1_sideOf, Cond.instanceMethod yX1_sideOf, Cond.selects RX1 yX1_sideOf yX1_sideOf, Cond.code yX1_sideOf cX1_sideOf 4 (some .int), Cond.methodLink RX1 28 yX1_width, Cond.instanceMethod yX1_width, Cond.selects RX1 yX1_width yX1_width, Cond.code yX1_width cX1_width 2 (some .int), Cond.methodLink RX1 32 yX1_height, Cond.instanceMethod yX1_height, Cond.selects RX1 yX1_height yX1_height, Cond.code yX1_height cX1_height 2 (some .int), Cond.instanceMethod yX1_pieceIsSteepTo, Cond.selects RX1 yX1_pieceIsSteepTo yX1_pieceIsSteepTo, Cond.code yX1_pieceIsSteepTo cX1_pieceIsSteepTo 8 (some .boolean), Cond.methodLink RX1 68 Lib.Math.abs.name, Cond.static Lib.Math.abs.name]
def wsL_law0_r9 : List Cond := [Cond.code Lib.Math.abs.name Lib.Math.abs.code 1 (some .int), Cond.methodLink RL 90 yX3_lay, Cond.instanceMethod yX3_lay, Cond.selects RX3 yX3_lay yX3_lay, Cond.code yX3_lay cX3_lay 2 (some .int), Cond.fieldLink RX3 70 "CableOfficeModel" "cables" "I", Cond.methodLink RL 91 yL_move, Cond.static yL_move, Cond.codeWith yL_move cL_move 7 (some .int) [(0, 14, 17, 25), (0, 14, 21, 13), (0, 14, 25, 15)], Cond.classLink RL 25 "java/lang/IndexOutOfBoundsException", Cond.methodLink RL 21 yX2_move, Cond.instanceMethod yX2_move, Cond.selects RX2 yX2_move yX2_move, Cond.code yX2_move cX2_move 8 (some .int), Cond.methodLink RX2 78 yX2_demandPoint, Cond.instanceMethod yX2_demandPoint, Cond.selects RX2 yX2_demandPoint yX2_demandPoint, Cond.code yX2_demandPoint cX2_demandPoint 3 none, Cond.classLink RX2 190 "java/lang/IndexOutOfBoundsException", Cond.initialized "java/lang/IndexOutOfBoundsException", Cond.methodLink RX2 195 yX2_demandCable, Cond.instanceMethod yX2_demandCable, Cond.selects RX2 yX2_demandCable yX2_demandCable, Cond.code yX2_demandCable cX2_demandCable 2 none]
def wsL_law0_r10 : List Cond := [Cond.methodLink RX2 89 yX2_dropIfNotWell, Cond.instanceMethod yX2_dropIfNotWell, Cond.selects RX2 yX2_dropIfNotWell yX2_dropIfNotWell, Cond.code yX2_dropIfNotWell cX2_dropIfNotWell 4 (some .int), Cond.methodLink RX2 103 yX2_crossWell, Cond.instanceMethod yX2_crossWell, Cond.selects RX2 yX2_crossWell yX2_crossWell, Cond.code yX2_crossWell cX2_crossWell 4 (some .boolean), Cond.methodLink RL 94 yX3_move, Cond.instanceMethod yX3_move, Cond.selects RX3 yX3_move yX3_move, Cond.code yX3_move cX3_move 7 (some .int), Cond.methodLink RX3 112 yX3_errorOfMove, Cond.instanceMethod yX3_errorOfMove, Cond.selects RX3 yX3_errorOfMove yX3_errorOfMove, Cond.code yX3_errorOfMove cX3_errorOfMove 8 (some .int), Cond.methodLink RX3 109 yX3_isPoint, Cond.instanceMethod yX3_isPoint, Cond.selects RX3 yX3_isPoint yX3_isPoint, Cond.code yX3_isPoint cX3_isPoint 3 (some .boolean), Cond.methodLink RX3 73 yX3_isCable, Cond.instanceMethod yX3_isCable, Cond.selects RX3 yX3_isCable yX3_isCable, Cond.code yX3_isCable cX3_isCable 2 (some .boolean)]
def wsL_law0_r11 : List Cond := [Cond.methodLink RX3 116 yX3_isWellNow, Cond.instanceMethod yX3_isWellNow, Cond.selects RX3 yX3_isWellNow yX3_isWellNow, Cond.code yX3_isWellNow cX3_isWellNow 8 (some .boolean), Cond.methodLink RX3 99 yX3_doCross, Cond.instanceMethod yX3_doCross, Cond.selects RX3 yX3_doCross yX3_doCross, Cond.code yX3_doCross cX3_doCross 3 (some .boolean), Cond.methodLink RX3 95 yX3_meets, Cond.instanceMethod yX3_meets, Cond.selects RX3 yX3_meets yX3_meets, Cond.code yX3_meets cX3_meets 16 (some .boolean), Cond.methodLink RX3 87 yX3_side, Cond.static yX3_side, Cond.code yX3_side cX3_side 7 (some .int), Cond.methodLink RX3 91 yX3_isBetween, Cond.static yX3_isBetween, Cond.code yX3_isBetween cX3_isBetween 7 (some .boolean), Cond.methodLink RX3 102 yX3_isSteep, Cond.instanceMethod yX3_isSteep, Cond.selects RX3 yX3_isSteep yX3_isSteep, Cond.code yX3_isSteep cX3_isSteep 9 (some .boolean), Cond.methodLink RX3 105 yX3_crossed, Cond.instanceMethod yX3_crossed]
def wsL_law0_r12 : List Cond := [Cond.selects RX3 yX3_crossed yX3_crossed, Cond.code yX3_crossed cX3_crossed 6 (some .int), Cond.methodLink RX3 119 yX3_agrees, Cond.instanceMethod yX3_agrees, Cond.selects RX3 yX3_agrees yX3_agrees, Cond.code yX3_agrees cX3_agrees 4 none, Cond.methodLink RL 95 yX2_cables, Cond.instanceMethod yX2_cables, Cond.selects RX2 yX2_cables yX2_cables, Cond.code yX2_cables cX2_cables 1 (some .int), Cond.methodLink RL 98 yX3_cables, Cond.instanceMethod yX3_cables, Cond.selects RX3 yX3_cables yX3_cables, Cond.code yX3_cables cX3_cables 1 (some .int), Cond.methodLink RL 99 yL_point, Cond.static yL_point, Cond.codeWith yL_point cL_point 5 (some .int) [(0, 10, 13, 25)], Cond.methodLink RL 27 yX2_point, Cond.instanceMethod yX2_point, Cond.selects RX2 yX2_point yX2_point, Cond.code yX2_point cX2_point 3 (some .int), Cond.methodLink RL 101 yX3_point, Cond.instanceMethod yX3_point, Cond.selects RX3 yX3_point yX3_point]
def wsL_law0_r13 : List Cond := [Cond.code yX3_point cX3_point 3 (some .int), Cond.methodLink RL 102 yL_crossings, Cond.static yL_crossings, Cond.codeWith yL_crossings cL_crossings 5 (some .int) [(0, 10, 13, 25)], Cond.methodLink RL 30 yX2_crossings, Cond.instanceMethod yX2_crossings, Cond.selects RX2 yX2_crossings yX2_crossings, Cond.code yX2_crossings cX2_crossings 3 (some .int), Cond.methodLink RX2 93 yX2_demandCables, Cond.instanceMethod yX2_demandCables, Cond.selects RX2 yX2_demandCables yX2_demandCables, Cond.code yX2_demandCables cX2_demandCables 3 none, Cond.methodLink RL 104 yX3_crossings, Cond.instanceMethod yX3_crossings, Cond.selects RX3 yX3_crossings yX3_crossings, Cond.code yX3_crossings cX3_crossings 3 (some .int), Cond.methodLink RX3 123 yX3_areCables, Cond.instanceMethod yX3_areCables, Cond.selects RX3 yX3_areCables yX3_areCables, Cond.code yX3_areCables cX3_areCables 3 (some .boolean), Cond.methodLink RL 105 yL_crossingsAnew, Cond.static yL_crossingsAnew, Cond.codeWith yL_crossingsAnew cL_crossingsAnew 5 (some .int) [(0, 10, 13, 25)], Cond.methodLink RL 33 yX2_crossingsAnew]
def wsL_law0_r14 : List Cond := [Cond.instanceMethod yX2_crossingsAnew, Cond.selects RX2 yX2_crossingsAnew yX2_crossingsAnew, Cond.code yX2_crossingsAnew cX2_crossingsAnew 3 (some .int), Cond.methodLink RL 107 yX3_crossingsAnew, Cond.instanceMethod yX3_crossingsAnew, Cond.selects RX3 yX3_crossingsAnew yX3_crossingsAnew, Cond.code yX3_crossingsAnew cX3_crossingsAnew 3 (some .int), Cond.methodLink RL 108 yL_isWell, Cond.static yL_isWell, Cond.codeWith yL_isWell cL_isWell 5 (some .int) [(0, 17, 20, 25)], Cond.methodLink RL 36 yX2_isWell, Cond.instanceMethod yX2_isWell, Cond.selects RX2 yX2_isWell yX2_isWell, Cond.code yX2_isWell cX2_isWell 3 (some .boolean), Cond.methodLink RL 110 yX3_isWell, Cond.instanceMethod yX3_isWell, Cond.selects RX3 yX3_isWell yX3_isWell, Cond.code yX3_isWell cX3_isWell 3 (some .boolean), Cond.methodLink RL 111 yL_agree, Cond.static yL_agree, Cond.codeWith yL_agree cL_agree 5 (some .int) [(0, 10, 13, 25), (0, 10, 17, 15)], Cond.methodLink RL 40 yX2_agree, Cond.instanceMethod yX2_agree, Cond.selects RX2 yX2_agree yX2_agree]
def wsL_law0_r15 : List Cond := [Cond.code yX2_agree cX2_agree 4 (some .int), Cond.methodLink RX2 109 yX2_countBarePairs, Cond.instanceMethod yX2_countBarePairs, Cond.selects RX2 yX2_countBarePairs yX2_countBarePairs, Cond.code yX2_countBarePairs cX2_countBarePairs 5 (some .int), Cond.methodLink RL 113 yX3_agree, Cond.instanceMethod yX3_agree, Cond.selects RX3 yX3_agree yX3_agree, Cond.code yX3_agree cX3_agree 5 (some .int), Cond.methodLink RX3 129 yX3_bareNow, Cond.instanceMethod yX3_bareNow, Cond.selects RX3 yX3_bareNow yX3_bareNow, Cond.code yX3_bareNow cX3_bareNow 3 (some .int), Cond.methodLink RX3 126 yX3_isBare, Cond.instanceMethod yX3_isBare, Cond.selects RX3 yX3_isBare yX3_isBare, Cond.code yX3_isBare cX3_isBare 3 (some .boolean), Cond.methodLink RL 114 yL_isAgreed, Cond.static yL_isAgreed, Cond.codeWith yL_isAgreed cL_isAgreed 5 (some .int) [(0, 17, 20, 25)], Cond.methodLink RL 43 yX2_isAgreed, Cond.instanceMethod yX2_isAgreed, Cond.selects RX2 yX2_isAgreed yX2_isAgreed, Cond.code yX2_isAgreed cX2_isAgreed 3 (some .boolean)]
def wsL_law0_r16 : List Cond := [Cond.methodLink RL 116 yX3_isAgreed, Cond.instanceMethod yX3_isAgreed, Cond.selects RX3 yX3_isAgreed yX3_isAgreed, Cond.code yX3_isAgreed cX3_isAgreed 3 (some .boolean), Cond.methodLink RL 117 yX2_bare, Cond.instanceMethod yX2_bare, Cond.selects RX2 yX2_bare yX2_bare, Cond.code yX2_bare cX2_bare 1 (some .int), Cond.methodLink RL 120 yX3_bare, Cond.instanceMethod yX3_bare, Cond.selects RX3 yX3_bare yX3_bare, Cond.code yX3_bare cX3_bare 1 (some .int), Cond.methodLink RL 121 yL_ground, Cond.static yL_ground, Cond.codeWith yL_ground cL_ground 9 (some .int) [(0, 18, 21, 13), (0, 18, 25, 15)], Cond.methodLink RL 46 yX2_ground, Cond.instanceMethod yX2_ground, Cond.selects RX2 yX2_ground yX2_ground, Cond.code yX2_ground cX2_ground 8 (some .int), Cond.methodLink RX2 118 yX2_demandMonth, Cond.static yX2_demandMonth, Cond.code yX2_demandMonth cX2_demandMonth 1 none, Cond.instanceMethod yX0_setBounds, Cond.selects RX0 yX0_setBounds yX0_setBounds]
def wsL_law0_r17 : List Cond := [Cond.code yX0_setBounds cX0_setBounds 5 none, Cond.instanceMethod yX0_setMonths, Cond.selects RX0 yX0_setMonths yX0_setMonths, Cond.code yX0_setMonths cX0_setMonths 3 none, Cond.methodLink RL 124 yX3_ground, Cond.instanceMethod yX3_ground, Cond.selects RX3 yX3_ground yX3_ground, Cond.code yX3_ground cX3_ground 8 (some .int), Cond.fieldLink RX3 133 "CableOfficeModel" "grounds" "I", Cond.methodLink RX3 136 yX3_isMonth, Cond.static yX3_isMonth, Cond.code yX3_isMonth cX3_isMonth 1 (some .boolean), Cond.methodLink RL 125 yL_tell, Cond.static yL_tell, Cond.codeWith yL_tell cL_tell 5 (some .int) [(0, 10, 13, 25), (0, 10, 17, 13), (0, 10, 21, 15)], Cond.methodLink RL 50 yX2_tell, Cond.instanceMethod yX2_tell, Cond.selects RX2 yX2_tell yX2_tell, Cond.code yX2_tell cX2_tell 4 (some .int), Cond.constant RX2 134 (1000000), Cond.methodLink RX2 131 yX2_demandGround, Cond.instanceMethod yX2_demandGround, Cond.selects RX2 yX2_demandGround yX2_demandGround, Cond.code yX2_demandGround cX2_demandGround 2 none]
def wsL_law0_r18 : List Cond := [Cond.instanceMethod yX0_price, Cond.selects RX0 yX0_price yX0_price, Cond.code yX0_price cX0_price 1 (some .int), Cond.methodLink RL 127 yX3_tell, Cond.instanceMethod yX3_tell, Cond.selects RX3 yX3_tell yX3_tell, Cond.code yX3_tell cX3_tell 4 (some .int), Cond.constant RX3 142 (1000000), Cond.methodLink RX3 139 yX3_isGround, Cond.instanceMethod yX3_isGround, Cond.selects RX3 yX3_isGround yX3_isGround, Cond.code yX3_isGround cX3_isGround 2 (some .boolean), Cond.methodLink RX3 143 yX3_price, Cond.instanceMethod yX3_price, Cond.selects RX3 yX3_price yX3_price, Cond.code yX3_price cX3_price 2 (some .int), Cond.methodLink RL 128 yL_isClosed, Cond.static yL_isClosed, Cond.codeWith yL_isClosed cL_isClosed 5 (some .int) [(0, 17, 20, 25), (0, 17, 24, 13)], Cond.methodLink RL 53 yX2_isClosed, Cond.instanceMethod yX2_isClosed, Cond.selects RX2 yX2_isClosed yX2_isClosed, Cond.code yX2_isClosed cX2_isClosed 3 (some .boolean), Cond.instanceMethod yX0_isShutIn]
def wsL_law0_r19 : List Cond := [Cond.selects RX0 yX0_isShutIn yX0_isShutIn, Cond.code yX0_isShutIn cX0_isShutIn 2 (some .boolean), Cond.methodLink RL 130 yX3_isClosed, Cond.instanceMethod yX3_isClosed, Cond.selects RX3 yX3_isClosed yX3_isClosed, Cond.code yX3_isClosed cX3_isClosed 3 (some .boolean), Cond.methodLink RX3 147 yX3_isClosedNow, Cond.instanceMethod yX3_isClosedNow, Cond.selects RX3 yX3_isClosedNow yX3_isClosedNow, Cond.code yX3_isClosedNow cX3_isClosedNow 5 (some .boolean), Cond.methodLink RL 131 yL_touches, Cond.static yL_touches, Cond.codeWith yL_touches cL_touches 6 (some .int) [(0, 19, 22, 25)], Cond.methodLink RL 56 yX2_touches, Cond.instanceMethod yX2_touches, Cond.selects RX2 yX2_touches yX2_touches, Cond.code yX2_touches cX2_touches 4 (some .boolean), Cond.methodLink RX2 152 yX2_demandPiece, Cond.instanceMethod yX2_demandPiece, Cond.selects RX2 yX2_demandPiece yX2_demandPiece, Cond.code yX2_demandPiece cX2_demandPiece 3 none, Cond.instanceMethod yX1_pieceMeets, Cond.selects RX1 yX1_pieceMeets yX1_pieceMeets, Cond.code yX1_pieceMeets cX1_pieceMeets 3 (some .boolean)]
def wsL_law0_r20 : List Cond := [Cond.methodLink RX1 85 yX1_lineMeets, Cond.instanceMethod yX1_lineMeets, Cond.selects RX1 yX1_lineMeets yX1_lineMeets, Cond.code yX1_lineMeets cX1_lineMeets 7 (some .boolean), Cond.methodLink RL 134 yX3_touches, Cond.instanceMethod yX3_touches, Cond.selects RX3 yX3_touches yX3_touches, Cond.code yX3_touches cX3_touches 4 (some .boolean), Cond.methodLink RX3 150 yX3_isPiece, Cond.instanceMethod yX3_isPiece, Cond.selects RX3 yX3_isPiece yX3_isPiece, Cond.code yX3_isPiece cX3_isPiece 3 (some .boolean), Cond.methodLink RX3 153 yX3_doTouch, Cond.instanceMethod yX3_doTouch, Cond.selects RX3 yX3_doTouch yX3_doTouch, Cond.code yX3_doTouch cX3_doTouch 9 (some .boolean), Cond.methodLink RL 135 yL_lifted, Cond.static yL_lifted, Cond.codeWith yL_lifted cL_lifted 5 (some .int) [(0, 10, 13, 25)], Cond.methodLink RL 60 yX2_lifted, Cond.instanceMethod yX2_lifted, Cond.selects RX2 yX2_lifted yX2_lifted, Cond.code yX2_lifted cX2_lifted 3 (some .int), Cond.methodLink RX2 159 yX2_liftedWith]
def wsL_law0_r21 : List Cond := [Cond.instanceMethod yX2_liftedWith, Cond.selects RX2 yX2_liftedWith yX2_liftedWith, Cond.code yX2_liftedWith cX2_liftedWith 7 (some .long), Cond.methodLink RX2 222 yX2_bitOf, Cond.static yX2_bitOf, Cond.code yX2_bitOf cX2_bitOf 2 (some .long), Cond.methodLink RX2 225 yX2_lyingOn, Cond.instanceMethod yX2_lyingOn, Cond.selects RX2 yX2_lyingOn yX2_lyingOn, Cond.code yX2_lyingOn cX2_lyingOn 8 (some .long), Cond.methodLink RX2 229 yX2_liesOnLifted, Cond.instanceMethod yX2_liesOnLifted, Cond.selects RX2 yX2_liesOnLifted yX2_liesOnLifted, Cond.code yX2_liesOnLifted cX2_liesOnLifted 7 (some .boolean), Cond.methodLink RX2 233 yX2_isIn, Cond.static yX2_isIn, Cond.code yX2_isIn cX2_isIn 4 (some .boolean), Cond.methodLink RX2 163 yJ13_bitCount_95d88, Cond.static yJ13_bitCount_95d88, Cond.initialized RJ13, Cond.code yJ13_bitCount_95d88 cJ13_bitCount_95d88 2 (some .int), Cond.constantLong RJ13 314 (6148914691236517205), Cond.constantLong RJ13 316 (3689348814741910323), Cond.constantLong RJ13 318 (1085102592571150095)]
def wsL_law0_r22 : List Cond := [Cond.methodLink RL 137 yX3_lifted, Cond.instanceMethod yX3_lifted, Cond.selects RX3 yX3_lifted yX3_lifted, Cond.code yX3_lifted cX3_lifted 3 (some .int), Cond.methodLink RX3 156 yX3_lifts, Cond.instanceMethod yX3_lifts, Cond.selects RX3 yX3_lifts yX3_lifts, Cond.code yX3_lifts cX3_lifts 6 (some .int), Cond.methodLink RL 138 yL_cost, Cond.static yL_cost, Cond.codeWith yL_cost cL_cost 6 (some .int) [(0, 12, 15, 25), (0, 12, 19, 13)], Cond.methodLink RL 63 yX2_cost, Cond.instanceMethod yX2_cost, Cond.selects RX2 yX2_cost yX2_cost, Cond.code yX2_cost cX2_cost 6 (some .int), Cond.methodLink RX2 169 yX2_isPossible, Cond.instanceMethod yX2_isPossible, Cond.selects RX2 yX2_isPossible yX2_isPossible, Cond.code yX2_isPossible cX2_isPossible 5 (some .boolean), Cond.methodLink RX2 173 yX2_costOf, Cond.instanceMethod yX2_costOf, Cond.selects RX2 yX2_costOf yX2_costOf, Cond.code yX2_costOf cX2_costOf 6 (some .int), Cond.methodLink RX2 237 yX2_isOwed]
def wsL_law0_r23 : List Cond := [Cond.instanceMethod yX2_isOwed, Cond.selects RX2 yX2_isOwed yX2_isOwed, Cond.code yX2_isOwed cX2_isOwed 5 (some .boolean), Cond.methodLink RX2 241 yX2_isMetByAny, Cond.instanceMethod yX2_isMetByAny, Cond.selects RX2 yX2_isMetByAny yX2_isMetByAny, Cond.code yX2_isMetByAny cX2_isMetByAny 6 (some .boolean), Cond.methodLink RL 140 yX3_cost, Cond.instanceMethod yX3_cost, Cond.selects RX3 yX3_cost yX3_cost, Cond.code yX3_cost cX3_cost 4 (some .int), Cond.methodLink RX3 165 yX3_repaired, Cond.instanceMethod yX3_repaired, Cond.selects RX3 yX3_repaired yX3_repaired, Cond.code yX3_repaired cX3_repaired 8 (some .int), Cond.methodLink RX3 159 yX3_isPossible, Cond.instanceMethod yX3_isPossible, Cond.selects RX3 yX3_isPossible yX3_isPossible, Cond.code yX3_isPossible cX3_isPossible 5 (some .boolean), Cond.methodLink RX3 162 yX3_isTouched, Cond.instanceMethod yX3_isTouched, Cond.selects RX3 yX3_isTouched yX3_isTouched, Cond.code yX3_isTouched cX3_isTouched 5 (some .boolean), Cond.methodLink RL 141 yL_repair]
def wsL_law0_r24 : List Cond := [Cond.static yL_repair, Cond.codeWith yL_repair cL_repair 6 (some .int) [(0, 12, 15, 25), (0, 12, 19, 13), (0, 12, 23, 15)], Cond.methodLink RL 67 yX2_repair, Cond.instanceMethod yX2_repair, Cond.selects RX2 yX2_repair yX2_repair, Cond.code yX2_repair cX2_repair 6 (some .int), Cond.methodLink RX2 179 yX2_payGrounds, Cond.instanceMethod yX2_payGrounds, Cond.selects RX2 yX2_payGrounds yX2_payGrounds, Cond.code yX2_payGrounds cX2_payGrounds 5 none, Cond.methodLink RL 143 yX3_repair, Cond.instanceMethod yX3_repair, Cond.selects RX3 yX3_repair yX3_repair, Cond.code yX3_repair cX3_repair 4 (some .int), Cond.fieldLink RX3 169 "CableOfficeModel" "repairs" "I", Cond.methodLink RX3 172 yX3_errorOfRepair, Cond.instanceMethod yX3_errorOfRepair, Cond.selects RX3 yX3_errorOfRepair yX3_errorOfRepair, Cond.code yX3_errorOfRepair cX3_errorOfRepair 4 (some .int), Cond.methodLink RL 144 yL_paid, Cond.static yL_paid, Cond.codeWith yL_paid cL_paid 4 (some .int) [(0, 9, 12, 25)], Cond.methodLink RL 70 yX2_paid, Cond.instanceMethod yX2_paid]
def wsL_law0_r25 : List Cond := [Cond.selects RX2 yX2_paid yX2_paid, Cond.code yX2_paid cX2_paid 2 (some .int), Cond.methodLink RL 147 yX3_paid, Cond.instanceMethod yX3_paid, Cond.selects RX3 yX3_paid yX3_paid, Cond.code yX3_paid cX3_paid 2 (some .int)]
def wsL_law0 : List Cond := (wsL_law0_r1 ++ (wsL_law0_r2 ++ (wsL_law0_r3 ++ (wsL_law0_r4 ++ (wsL_law0_r5 ++ (wsL_law0_r6 ++ (wsL_law0_r7 ++ (wsL_law0_r8 ++ (wsL_law0_r9 ++ (wsL_law0_r10 ++ (wsL_law0_r11 ++ (wsL_law0_r12 ++ (wsL_law0_r13 ++ (wsL_law0_r14 ++ (wsL_law0_r15 ++ (wsL_law0_r16 ++ (wsL_law0_r17 ++ (wsL_law0_r18 ++ (wsL_law0_r19 ++ (wsL_law0_r20 ++ (wsL_law0_r21 ++ (wsL_law0_r22 ++ (wsL_law0_r23 ++ (wsL_law0_r24 ++ wsL_law0_r25)))))))))))))))))))))))) ++ wsX20 ++ wsX30 ++ wsX10 ++ wsX00 ++ ([] : List Cond)
def wsL_law : List Cond := wsL_law0 ++ (vx_atS RX2 63 "java/lang/IllegalStateException" ["java/lang/RuntimeException", "java/lang/Exception"]).filter goodWord ++ (vx_atS RX2 117 "java/lang/IllegalArgumentException" ["java/lang/RuntimeException", "java/lang/Exception"]).filter goodWord ++ (vx_atS RX2 194 "java/lang/IndexOutOfBoundsException" ["java/lang/RuntimeException", "java/lang/Exception"]).filter goodWord
end
section
theorem dX0_init_0 : decode cX0_init 0 = .ok (.aload_n 0, 1) := by decide +kernel
theorem dX0_init_1 : decode cX0_init 1 = .ok (.invokespecial 1, 3) := by decide +kernel
theorem dX0_init_4 : decode cX0_init 4 = .ok (.aload_n 0, 1) := by decide +kernel
theorem dX0_init_5 : decode cX0_init 5 = .ok (.iconst 0, 1) := by decide +kernel
theorem dX0_init_6 : decode cX0_init 6 = .ok (.putfield 7, 3) := by decide +kernel
theorem dX0_init_9 : decode cX0_init 9 = .ok (.aload_n 0, 1) := by decide +kernel
theorem dX0_init_10 : decode cX0_init 10 = .ok (.iconst 0, 1) := by decide +kernel
theorem dX0_init_11 : decode cX0_init 11 = .ok (.putfield 13, 3) := by decide +kernel
theorem dX0_init_14 : decode cX0_init 14 = .ok (.aload_n 0, 1) := by decide +kernel
theorem dX0_init_15 : decode cX0_init 15 = .ok (.iconst 0, 1) := by decide +kernel
theorem dX0_init_16 : decode cX0_init 16 = .ok (.putfield 16, 3) := by decide +kernel
theorem dX0_init_19 : decode cX0_init 19 = .ok (.aload_n 0, 1) := by decide +kernel
theorem dX0_init_20 : decode cX0_init 20 = .ok (.iconst 0, 1) := by decide +kernel
theorem dX0_init_21 : decode cX0_init 21 = .ok (.putfield 19, 3) := by decide +kernel
theorem dX0_init_24 : decode cX0_init 24 = .ok (.aload_n 0, 1) := by decide +kernel
theorem dX0_init_25 : decode cX0_init 25 = .ok (.iconst 0, 1) := by decide +kernel
theorem dX0_init_26 : decode cX0_init 26 = .ok (.putfield 22, 3) := by decide +kernel
theorem dX0_init_29 : decode cX0_init 29 = .ok (.aload_n 0, 1) := by decide +kernel
theorem dX0_init_30 : decode cX0_init 30 = .ok (.iconst 0, 1) := by decide +kernel
theorem dX0_init_31 : decode cX0_init 31 = .ok (.putfield 25, 3) := by decide +kernel
theorem dX0_init_34 : decode cX0_init 34 = .ok (.aload_n 0, 1) := by decide +kernel
theorem dX0_init_35 : decode cX0_init 35 = .ok (.iconst 0, 1) := by decide +kernel
theorem dX0_init_36 : decode cX0_init 36 = .ok (.putfield 28, 3) := by decide +kernel
theorem dX0_init_39 : decode cX0_init 39 = .ok (.aload_n 0, 1) := by decide +kernel
theorem dX0_init_40 : decode cX0_init 40 = .ok (.iconst 0, 1) := by decide +kernel
theorem dX0_init_41 : decode cX0_init 41 = .ok (.putfield 31, 3) := by decide +kernel
theorem dX0_init_44 : decode cX0_init 44 = .ok (.aload_n 0, 1) := by decide +kernel
theorem dX0_init_45 : decode cX0_init 45 = .ok (.iconst 0, 1) := by decide +kernel
theorem dX0_init_46 : decode cX0_init 46 = .ok (.putfield 34, 3) := by decide +kernel
theorem dX0_init_49 : decode cX0_init 49 = .ok (.return_, 1) := by decide +kernel
theorem dX0_setBounds_0 : decode cX0_setBounds 0 = .ok (.aload_n 0, 1) := by decide +kernel
theorem dX0_setBounds_1 : decode cX0_setBounds 1 = .ok (.iload_n 1, 1) := by decide +kernel
theorem dX0_setBounds_2 : decode cX0_setBounds 2 = .ok (.putfield 7, 3) := by decide +kernel
theorem dX0_setBounds_5 : decode cX0_setBounds 5 = .ok (.aload_n 0, 1) := by decide +kernel
theorem dX0_setBounds_6 : decode cX0_setBounds 6 = .ok (.iload_n 2, 1) := by decide +kernel
theorem dX0_setBounds_7 : decode cX0_setBounds 7 = .ok (.putfield 13, 3) := by decide +kernel
theorem dX0_setBounds_10 : decode cX0_setBounds 10 = .ok (.aload_n 0, 1) := by decide +kernel
theorem dX0_setBounds_11 : decode cX0_setBounds 11 = .ok (.iload_n 3, 1) := by decide +kernel
theorem dX0_setBounds_12 : decode cX0_setBounds 12 = .ok (.putfield 16, 3) := by decide +kernel
theorem dX0_setBounds_15 : decode cX0_setBounds 15 = .ok (.aload_n 0, 1) := by decide +kernel
theorem dX0_setBounds_16 : decode cX0_setBounds 16 = .ok (.iload 4, 2) := by decide +kernel
theorem dX0_setBounds_18 : decode cX0_setBounds 18 = .ok (.putfield 19, 3) := by decide +kernel
theorem dX0_setBounds_21 : decode cX0_setBounds 21 = .ok (.return_, 1) := by decide +kernel
theorem dX0_setMonths_0 : decode cX0_setMonths 0 = .ok (.aload_n 0, 1) := by decide +kernel
theorem dX0_setMonths_1 : decode cX0_setMonths 1 = .ok (.iload_n 1, 1) := by decide +kernel
theorem dX0_setMonths_2 : decode cX0_setMonths 2 = .ok (.putfield 22, 3) := by decide +kernel
theorem dX0_setMonths_5 : decode cX0_setMonths 5 = .ok (.aload_n 0, 1) := by decide +kernel
theorem dX0_setMonths_6 : decode cX0_setMonths 6 = .ok (.iload_n 2, 1) := by decide +kernel
theorem dX0_setMonths_7 : decode cX0_setMonths 7 = .ok (.putfield 25, 3) := by decide +kernel
theorem dX0_setMonths_10 : decode cX0_setMonths 10 = .ok (.return_, 1) := by decide +kernel
theorem dX0_isShutIn_0 : decode cX0_isShutIn 0 = .ok (.aload_n 0, 1) := by decide +kernel
theorem dX0_isShutIn_1 : decode cX0_isShutIn 1 = .ok (.getfield 22, 3) := by decide +kernel
theorem dX0_isShutIn_4 : decode cX0_isShutIn 4 = .ok (.aload_n 0, 1) := by decide +kernel
theorem dX0_isShutIn_5 : decode cX0_isShutIn 5 = .ok (.getfield 25, 3) := by decide +kernel
theorem dX0_isShutIn_8 : decode cX0_isShutIn 8 = .ok (.if_icmp .gt 25, 3) := by decide +kernel
theorem dX0_isShutIn_11 : decode cX0_isShutIn 11 = .ok (.aload_n 0, 1) := by decide +kernel
theorem dX0_isShutIn_12 : decode cX0_isShutIn 12 = .ok (.getfield 22, 3) := by decide +kernel
theorem dX0_isShutIn_15 : decode cX0_isShutIn 15 = .ok (.iload_n 1, 1) := by decide +kernel
theorem dX0_isShutIn_16 : decode cX0_isShutIn 16 = .ok (.if_icmp .gt 15, 3) := by decide +kernel
theorem dX0_isShutIn_19 : decode cX0_isShutIn 19 = .ok (.iload_n 1, 1) := by decide +kernel
theorem dX0_isShutIn_20 : decode cX0_isShutIn 20 = .ok (.aload_n 0, 1) := by decide +kernel
theorem dX0_isShutIn_21 : decode cX0_isShutIn 21 = .ok (.getfield 25, 3) := by decide +kernel
theorem dX0_isShutIn_24 : decode cX0_isShutIn 24 = .ok (.if_icmp .gt 7, 3) := by decide +kernel
theorem dX0_isShutIn_27 : decode cX0_isShutIn 27 = .ok (.iconst 1, 1) := by decide +kernel
theorem dX0_isShutIn_28 : decode cX0_isShutIn 28 = .ok (.goto 4, 3) := by decide +kernel
theorem dX0_isShutIn_31 : decode cX0_isShutIn 31 = .ok (.iconst 0, 1) := by decide +kernel
theorem dX0_isShutIn_32 : decode cX0_isShutIn 32 = .ok (.ireturn, 1) := by decide +kernel
theorem dX0_isShutIn_33 : decode cX0_isShutIn 33 = .ok (.aload_n 0, 1) := by decide +kernel
theorem dX0_isShutIn_34 : decode cX0_isShutIn 34 = .ok (.getfield 22, 3) := by decide +kernel
theorem dX0_isShutIn_37 : decode cX0_isShutIn 37 = .ok (.iload_n 1, 1) := by decide +kernel
theorem dX0_isShutIn_38 : decode cX0_isShutIn 38 = .ok (.if_icmp .le 11, 3) := by decide +kernel
theorem dX0_isShutIn_41 : decode cX0_isShutIn 41 = .ok (.iload_n 1, 1) := by decide +kernel
theorem dX0_isShutIn_42 : decode cX0_isShutIn 42 = .ok (.aload_n 0, 1) := by decide +kernel
theorem dX0_isShutIn_43 : decode cX0_isShutIn 43 = .ok (.getfield 25, 3) := by decide +kernel
theorem dX0_isShutIn_46 : decode cX0_isShutIn 46 = .ok (.if_icmp .gt 7, 3) := by decide +kernel
theorem dX0_isShutIn_49 : decode cX0_isShutIn 49 = .ok (.iconst 1, 1) := by decide +kernel
theorem dX0_isShutIn_50 : decode cX0_isShutIn 50 = .ok (.goto 4, 3) := by decide +kernel
theorem dX0_isShutIn_53 : decode cX0_isShutIn 53 = .ok (.iconst 0, 1) := by decide +kernel
theorem dX0_isShutIn_54 : decode cX0_isShutIn 54 = .ok (.ireturn, 1) := by decide +kernel
theorem dX0_price_0 : decode cX0_price 0 = .ok (.aload_n 0, 1) := by decide +kernel
theorem dX0_price_1 : decode cX0_price 1 = .ok (.getfield 28, 3) := by decide +kernel
theorem dX0_price_4 : decode cX0_price 4 = .ok (.ifCond .le 15, 3) := by decide +kernel
theorem dX0_price_7 : decode cX0_price 7 = .ok (.aload_n 0, 1) := by decide +kernel
theorem dX0_price_8 : decode cX0_price 8 = .ok (.getfield 31, 3) := by decide +kernel
theorem dX0_price_11 : decode cX0_price 11 = .ok (.aload_n 0, 1) := by decide +kernel
theorem dX0_price_12 : decode cX0_price 12 = .ok (.getfield 28, 3) := by decide +kernel
theorem dX0_price_15 : decode cX0_price 15 = .ok (.idiv, 1) := by decide +kernel
theorem dX0_price_16 : decode cX0_price 16 = .ok (.goto 4, 3) := by decide +kernel
theorem dX0_price_19 : decode cX0_price 19 = .ok (.iconst 0, 1) := by decide +kernel
theorem dX0_price_20 : decode cX0_price 20 = .ok (.ireturn, 1) := by decide +kernel
theorem dX1_init_0 : decode cX1_init 0 = .ok (.aload_n 0, 1) := by decide +kernel
theorem dX1_init_1 : decode cX1_init 1 = .ok (.invokespecial 3, 3) := by decide +kernel
theorem dX1_init_4 : decode cX1_init 4 = .ok (.aload_n 0, 1) := by decide +kernel
theorem dX1_init_5 : decode cX1_init 5 = .ok (.bipush 8, 2) := by decide +kernel
theorem dX1_init_7 : decode cX1_init 7 = .ok (.newarray .int, 2) := by decide +kernel
theorem dX1_init_9 : decode cX1_init 9 = .ok (.putfield 9, 3) := by decide +kernel
theorem dX1_init_12 : decode cX1_init 12 = .ok (.aload_n 0, 1) := by decide +kernel
theorem dX1_init_13 : decode cX1_init 13 = .ok (.bipush 8, 2) := by decide +kernel
theorem dX1_init_15 : decode cX1_init 15 = .ok (.newarray .int, 2) := by decide +kernel
theorem dX1_init_17 : decode cX1_init 17 = .ok (.putfield 15, 3) := by decide +kernel
theorem dX1_init_20 : decode cX1_init 20 = .ok (.aload_n 0, 1) := by decide +kernel
theorem dX1_init_21 : decode cX1_init 21 = .ok (.iconst 0, 1) := by decide +kernel
theorem dX1_init_22 : decode cX1_init 22 = .ok (.putfield 18, 3) := by decide +kernel
theorem dX1_init_25 : decode cX1_init 25 = .ok (.return_, 1) := by decide +kernel
theorem dX1_pieces_0 : decode cX1_pieces 0 = .ok (.aload_n 0, 1) := by decide +kernel
theorem dX1_pieces_1 : decode cX1_pieces 1 = .ok (.getfield 18, 3) := by decide +kernel
theorem dX1_pieces_4 : decode cX1_pieces 4 = .ok (.iconst 1, 1) := by decide +kernel
theorem dX1_pieces_5 : decode cX1_pieces 5 = .ok (.isub, 1) := by decide +kernel
theorem dX1_pieces_6 : decode cX1_pieces 6 = .ok (.ireturn, 1) := by decide +kernel
theorem dX1_isAt_0 : decode cX1_isAt 0 = .ok (.iload_n 1, 1) := by decide +kernel
theorem dX1_isAt_1 : decode cX1_isAt 1 = .ok (.ifCond .lt 35, 3) := by decide +kernel
theorem dX1_isAt_4 : decode cX1_isAt 4 = .ok (.iload_n 1, 1) := by decide +kernel
theorem dX1_isAt_5 : decode cX1_isAt 5 = .ok (.aload_n 0, 1) := by decide +kernel
theorem dX1_isAt_6 : decode cX1_isAt 6 = .ok (.getfield 18, 3) := by decide +kernel
theorem dX1_isAt_9 : decode cX1_isAt 9 = .ok (.if_icmp .ge 27, 3) := by decide +kernel
theorem dX1_isAt_12 : decode cX1_isAt 12 = .ok (.aload_n 0, 1) := by decide +kernel
theorem dX1_isAt_13 : decode cX1_isAt 13 = .ok (.getfield 9, 3) := by decide +kernel
theorem dX1_isAt_16 : decode cX1_isAt 16 = .ok (.iload_n 1, 1) := by decide +kernel
theorem dX1_isAt_17 : decode cX1_isAt 17 = .ok (.iaload, 1) := by decide +kernel
theorem dX1_isAt_18 : decode cX1_isAt 18 = .ok (.iload_n 2, 1) := by decide +kernel
theorem dX1_isAt_19 : decode cX1_isAt 19 = .ok (.if_icmp .ne 17, 3) := by decide +kernel
theorem dX1_isAt_22 : decode cX1_isAt 22 = .ok (.aload_n 0, 1) := by decide +kernel
theorem dX1_isAt_23 : decode cX1_isAt 23 = .ok (.getfield 15, 3) := by decide +kernel
theorem dX1_isAt_26 : decode cX1_isAt 26 = .ok (.iload_n 1, 1) := by decide +kernel
theorem dX1_isAt_27 : decode cX1_isAt 27 = .ok (.iaload, 1) := by decide +kernel
theorem dX1_isAt_28 : decode cX1_isAt 28 = .ok (.iload_n 3, 1) := by decide +kernel
theorem dX1_isAt_29 : decode cX1_isAt 29 = .ok (.if_icmp .ne 7, 3) := by decide +kernel
theorem dX1_isAt_32 : decode cX1_isAt 32 = .ok (.iconst 1, 1) := by decide +kernel
theorem dX1_isAt_33 : decode cX1_isAt 33 = .ok (.goto 4, 3) := by decide +kernel
theorem dX1_isAt_36 : decode cX1_isAt 36 = .ok (.iconst 0, 1) := by decide +kernel
theorem dX1_isAt_37 : decode cX1_isAt 37 = .ok (.ireturn, 1) := by decide +kernel
theorem dX1_add_0 : decode cX1_add 0 = .ok (.aload_n 0, 1) := by decide +kernel
theorem dX1_add_1 : decode cX1_add 1 = .ok (.getfield 9, 3) := by decide +kernel
theorem dX1_add_4 : decode cX1_add 4 = .ok (.aload_n 0, 1) := by decide +kernel
theorem dX1_add_5 : decode cX1_add 5 = .ok (.getfield 18, 3) := by decide +kernel
theorem dX1_add_8 : decode cX1_add 8 = .ok (.iload_n 1, 1) := by decide +kernel
theorem dX1_add_9 : decode cX1_add 9 = .ok (.iastore, 1) := by decide +kernel
theorem dX1_add_10 : decode cX1_add 10 = .ok (.aload_n 0, 1) := by decide +kernel
theorem dX1_add_11 : decode cX1_add 11 = .ok (.getfield 15, 3) := by decide +kernel
theorem dX1_add_14 : decode cX1_add 14 = .ok (.aload_n 0, 1) := by decide +kernel
theorem dX1_add_15 : decode cX1_add 15 = .ok (.getfield 18, 3) := by decide +kernel
theorem dX1_add_18 : decode cX1_add 18 = .ok (.iload_n 2, 1) := by decide +kernel
theorem dX1_add_19 : decode cX1_add 19 = .ok (.iastore, 1) := by decide +kernel
theorem dX1_add_20 : decode cX1_add 20 = .ok (.aload_n 0, 1) := by decide +kernel
theorem dX1_add_21 : decode cX1_add 21 = .ok (.dup, 1) := by decide +kernel
theorem dX1_add_22 : decode cX1_add 22 = .ok (.getfield 18, 3) := by decide +kernel
theorem dX1_add_25 : decode cX1_add 25 = .ok (.iconst 1, 1) := by decide +kernel
theorem dX1_add_26 : decode cX1_add 26 = .ok (.iadd, 1) := by decide +kernel
theorem dX1_add_27 : decode cX1_add 27 = .ok (.putfield 18, 3) := by decide +kernel
theorem dX1_add_30 : decode cX1_add 30 = .ok (.return_, 1) := by decide +kernel
theorem dX1_takeAllOf_0 : decode cX1_takeAllOf 0 = .ok (.aload_n 1, 1) := by decide +kernel
theorem dX1_takeAllOf_1 : decode cX1_takeAllOf 1 = .ok (.getfield 9, 3) := by decide +kernel
theorem dX1_takeAllOf_4 : decode cX1_takeAllOf 4 = .ok (.iconst 0, 1) := by decide +kernel
theorem dX1_takeAllOf_5 : decode cX1_takeAllOf 5 = .ok (.aload_n 0, 1) := by decide +kernel
theorem dX1_takeAllOf_6 : decode cX1_takeAllOf 6 = .ok (.getfield 9, 3) := by decide +kernel
theorem dX1_takeAllOf_9 : decode cX1_takeAllOf 9 = .ok (.iconst 0, 1) := by decide +kernel
theorem dX1_takeAllOf_10 : decode cX1_takeAllOf 10 = .ok (.bipush 8, 2) := by decide +kernel
theorem dX1_takeAllOf_12 : decode cX1_takeAllOf 12 = .ok (.invokestatic 22, 3) := by decide +kernel
theorem dX1_takeAllOf_15 : decode cX1_takeAllOf 15 = .ok (.aload_n 1, 1) := by decide +kernel
theorem dX1_takeAllOf_16 : decode cX1_takeAllOf 16 = .ok (.getfield 15, 3) := by decide +kernel
theorem dX1_takeAllOf_19 : decode cX1_takeAllOf 19 = .ok (.iconst 0, 1) := by decide +kernel
theorem dX1_takeAllOf_20 : decode cX1_takeAllOf 20 = .ok (.aload_n 0, 1) := by decide +kernel
theorem dX1_takeAllOf_21 : decode cX1_takeAllOf 21 = .ok (.getfield 15, 3) := by decide +kernel
theorem dX1_takeAllOf_24 : decode cX1_takeAllOf 24 = .ok (.iconst 0, 1) := by decide +kernel
theorem dX1_takeAllOf_25 : decode cX1_takeAllOf 25 = .ok (.bipush 8, 2) := by decide +kernel
theorem dX1_takeAllOf_27 : decode cX1_takeAllOf 27 = .ok (.invokestatic 22, 3) := by decide +kernel
theorem dX1_takeAllOf_30 : decode cX1_takeAllOf 30 = .ok (.aload_n 0, 1) := by decide +kernel
theorem dX1_takeAllOf_31 : decode cX1_takeAllOf 31 = .ok (.aload_n 1, 1) := by decide +kernel
theorem dX1_takeAllOf_32 : decode cX1_takeAllOf 32 = .ok (.getfield 18, 3) := by decide +kernel
theorem dX1_takeAllOf_35 : decode cX1_takeAllOf 35 = .ok (.putfield 18, 3) := by decide +kernel
theorem dX1_takeAllOf_38 : decode cX1_takeAllOf 38 = .ok (.return_, 1) := by decide +kernel
theorem dX1_width_0 : decode cX1_width 0 = .ok (.aload_n 0, 1) := by decide +kernel
theorem dX1_width_1 : decode cX1_width 1 = .ok (.getfield 9, 3) := by decide +kernel
theorem dX1_width_4 : decode cX1_width 4 = .ok (.iload_n 1, 1) := by decide +kernel
theorem dX1_width_5 : decode cX1_width 5 = .ok (.iconst 1, 1) := by decide +kernel
theorem dX1_width_6 : decode cX1_width 6 = .ok (.iadd, 1) := by decide +kernel
theorem dX1_width_7 : decode cX1_width 7 = .ok (.iaload, 1) := by decide +kernel
theorem dX1_width_8 : decode cX1_width 8 = .ok (.aload_n 0, 1) := by decide +kernel
theorem dX1_width_9 : decode cX1_width 9 = .ok (.getfield 9, 3) := by decide +kernel
theorem dX1_width_12 : decode cX1_width 12 = .ok (.iload_n 1, 1) := by decide +kernel
theorem dX1_width_13 : decode cX1_width 13 = .ok (.iaload, 1) := by decide +kernel
theorem dX1_width_14 : decode cX1_width 14 = .ok (.isub, 1) := by decide +kernel
theorem dX1_width_15 : decode cX1_width 15 = .ok (.ireturn, 1) := by decide +kernel
theorem dX1_height_0 : decode cX1_height 0 = .ok (.aload_n 0, 1) := by decide +kernel
theorem dX1_height_1 : decode cX1_height 1 = .ok (.getfield 15, 3) := by decide +kernel
theorem dX1_height_4 : decode cX1_height 4 = .ok (.iload_n 1, 1) := by decide +kernel
theorem dX1_height_5 : decode cX1_height 5 = .ok (.iconst 1, 1) := by decide +kernel
theorem dX1_height_6 : decode cX1_height 6 = .ok (.iadd, 1) := by decide +kernel
theorem dX1_height_7 : decode cX1_height 7 = .ok (.iaload, 1) := by decide +kernel
theorem dX1_height_8 : decode cX1_height 8 = .ok (.aload_n 0, 1) := by decide +kernel
theorem dX1_height_9 : decode cX1_height 9 = .ok (.getfield 15, 3) := by decide +kernel
theorem dX1_height_12 : decode cX1_height 12 = .ok (.iload_n 1, 1) := by decide +kernel
theorem dX1_height_13 : decode cX1_height 13 = .ok (.iaload, 1) := by decide +kernel
theorem dX1_height_14 : decode cX1_height 14 = .ok (.isub, 1) := by decide +kernel
theorem dX1_height_15 : decode cX1_height 15 = .ok (.ireturn, 1) := by decide +kernel
set_option maxRecDepth 20000 in
theorem ggX1_sideOf_X1_width : GoodIn wsX1_sideOf wsX1_width := goodIn_r _ [7, 2, 12, 13, 14] (by decide +kernel) (by decide +kernel)
set_option maxRecDepth 20000 in
theorem gX1_sideOf_X1_width : GoodIn wsX1_sideOf (wsV RX1 28 RX1 yX1_width wsX1_width) := goodIn_app (goodIn_of _ (by decide +kernel)) ggX1_sideOf_X1_width
set_option maxRecDepth 20000 in
theorem ggX1_sideOf_X1_height : GoodIn wsX1_sideOf wsX1_height := goodIn_r _ [11, 1, 12, 13, 14] (by decide +kernel) (by decide +kernel)
set_option maxRecDepth 20000 in
theorem gX1_sideOf_X1_height : GoodIn wsX1_sideOf (wsV RX1 32 RX1 yX1_height wsX1_height) := goodIn_app (goodIn_of _ (by decide +kernel)) ggX1_sideOf_X1_height
theorem dX1_sideOf_0 : decode cX1_sideOf 0 = .ok (.aload_n 0, 1) := by decide +kernel
theorem dX1_sideOf_1 : decode cX1_sideOf 1 = .ok (.iload_n 1, 1) := by decide +kernel
theorem dX1_sideOf_2 : decode cX1_sideOf 2 = .ok (.invokevirtual 28, 3) := by decide +kernel
theorem dX1_sideOf_5 : decode cX1_sideOf 5 = .ok (.iload_n 3, 1) := by decide +kernel
theorem dX1_sideOf_6 : decode cX1_sideOf 6 = .ok (.aload_n 0, 1) := by decide +kernel
theorem dX1_sideOf_7 : decode cX1_sideOf 7 = .ok (.getfield 15, 3) := by decide +kernel
theorem dX1_sideOf_10 : decode cX1_sideOf 10 = .ok (.iload_n 1, 1) := by decide +kernel
theorem dX1_sideOf_11 : decode cX1_sideOf 11 = .ok (.iaload, 1) := by decide +kernel
theorem dX1_sideOf_12 : decode cX1_sideOf 12 = .ok (.isub, 1) := by decide +kernel
theorem dX1_sideOf_13 : decode cX1_sideOf 13 = .ok (.imul, 1) := by decide +kernel
theorem dX1_sideOf_14 : decode cX1_sideOf 14 = .ok (.aload_n 0, 1) := by decide +kernel
theorem dX1_sideOf_15 : decode cX1_sideOf 15 = .ok (.iload_n 1, 1) := by decide +kernel
theorem dX1_sideOf_16 : decode cX1_sideOf 16 = .ok (.invokevirtual 32, 3) := by decide +kernel
theorem dX1_sideOf_19 : decode cX1_sideOf 19 = .ok (.iload_n 2, 1) := by decide +kernel
theorem dX1_sideOf_20 : decode cX1_sideOf 20 = .ok (.aload_n 0, 1) := by decide +kernel
theorem dX1_sideOf_21 : decode cX1_sideOf 21 = .ok (.getfield 9, 3) := by decide +kernel
theorem dX1_sideOf_24 : decode cX1_sideOf 24 = .ok (.iload_n 1, 1) := by decide +kernel
theorem dX1_sideOf_25 : decode cX1_sideOf 25 = .ok (.iaload, 1) := by decide +kernel
theorem dX1_sideOf_26 : decode cX1_sideOf 26 = .ok (.isub, 1) := by decide +kernel
theorem dX1_sideOf_27 : decode cX1_sideOf 27 = .ok (.imul, 1) := by decide +kernel
theorem dX1_sideOf_28 : decode cX1_sideOf 28 = .ok (.isub, 1) := by decide +kernel
theorem dX1_sideOf_29 : decode cX1_sideOf 29 = .ok (.ireturn, 1) := by decide +kernel
theorem dX1_leftOf_0 : decode cX1_leftOf 0 = .ok (.aload_n 0, 1) := by decide +kernel
theorem dX1_leftOf_1 : decode cX1_leftOf 1 = .ok (.getfield 9, 3) := by decide +kernel
theorem dX1_leftOf_4 : decode cX1_leftOf 4 = .ok (.iload_n 1, 1) := by decide +kernel
theorem dX1_leftOf_5 : decode cX1_leftOf 5 = .ok (.iaload, 1) := by decide +kernel
theorem dX1_leftOf_6 : decode cX1_leftOf 6 = .ok (.aload_n 0, 1) := by decide +kernel
theorem dX1_leftOf_7 : decode cX1_leftOf 7 = .ok (.getfield 9, 3) := by decide +kernel
theorem dX1_leftOf_10 : decode cX1_leftOf 10 = .ok (.iload_n 1, 1) := by decide +kernel
theorem dX1_leftOf_11 : decode cX1_leftOf 11 = .ok (.iconst 1, 1) := by decide +kernel
theorem dX1_leftOf_12 : decode cX1_leftOf 12 = .ok (.iadd, 1) := by decide +kernel
theorem dX1_leftOf_13 : decode cX1_leftOf 13 = .ok (.iaload, 1) := by decide +kernel
theorem dX1_leftOf_14 : decode cX1_leftOf 14 = .ok (.invokestatic 35, 3) := by decide +kernel
theorem dX1_leftOf_17 : decode cX1_leftOf 17 = .ok (.ireturn, 1) := by decide +kernel
theorem dX1_rightOf_0 : decode cX1_rightOf 0 = .ok (.aload_n 0, 1) := by decide +kernel
theorem dX1_rightOf_1 : decode cX1_rightOf 1 = .ok (.getfield 9, 3) := by decide +kernel
theorem dX1_rightOf_4 : decode cX1_rightOf 4 = .ok (.iload_n 1, 1) := by decide +kernel
theorem dX1_rightOf_5 : decode cX1_rightOf 5 = .ok (.iaload, 1) := by decide +kernel
theorem dX1_rightOf_6 : decode cX1_rightOf 6 = .ok (.aload_n 0, 1) := by decide +kernel
theorem dX1_rightOf_7 : decode cX1_rightOf 7 = .ok (.getfield 9, 3) := by decide +kernel
theorem dX1_rightOf_10 : decode cX1_rightOf 10 = .ok (.iload_n 1, 1) := by decide +kernel
theorem dX1_rightOf_11 : decode cX1_rightOf 11 = .ok (.iconst 1, 1) := by decide +kernel
theorem dX1_rightOf_12 : decode cX1_rightOf 12 = .ok (.iadd, 1) := by decide +kernel
theorem dX1_rightOf_13 : decode cX1_rightOf 13 = .ok (.iaload, 1) := by decide +kernel
theorem dX1_rightOf_14 : decode cX1_rightOf 14 = .ok (.invokestatic 41, 3) := by decide +kernel
theorem dX1_rightOf_17 : decode cX1_rightOf 17 = .ok (.ireturn, 1) := by decide +kernel
theorem dX1_lowOf_0 : decode cX1_lowOf 0 = .ok (.aload_n 0, 1) := by decide +kernel
theorem dX1_lowOf_1 : decode cX1_lowOf 1 = .ok (.getfield 15, 3) := by decide +kernel
theorem dX1_lowOf_4 : decode cX1_lowOf 4 = .ok (.iload_n 1, 1) := by decide +kernel
theorem dX1_lowOf_5 : decode cX1_lowOf 5 = .ok (.iaload, 1) := by decide +kernel
theorem dX1_lowOf_6 : decode cX1_lowOf 6 = .ok (.aload_n 0, 1) := by decide +kernel
theorem dX1_lowOf_7 : decode cX1_lowOf 7 = .ok (.getfield 15, 3) := by decide +kernel
theorem dX1_lowOf_10 : decode cX1_lowOf 10 = .ok (.iload_n 1, 1) := by decide +kernel
theorem dX1_lowOf_11 : decode cX1_lowOf 11 = .ok (.iconst 1, 1) := by decide +kernel
theorem dX1_lowOf_12 : decode cX1_lowOf 12 = .ok (.iadd, 1) := by decide +kernel
theorem dX1_lowOf_13 : decode cX1_lowOf 13 = .ok (.iaload, 1) := by decide +kernel
theorem dX1_lowOf_14 : decode cX1_lowOf 14 = .ok (.invokestatic 35, 3) := by decide +kernel
theorem dX1_lowOf_17 : decode cX1_lowOf 17 = .ok (.ireturn, 1) := by decide +kernel
theorem dX1_highOf_0 : decode cX1_highOf 0 = .ok (.aload_n 0, 1) := by decide +kernel
theorem dX1_highOf_1 : decode cX1_highOf 1 = .ok (.getfield 15, 3) := by decide +kernel
theorem dX1_highOf_4 : decode cX1_highOf 4 = .ok (.iload_n 1, 1) := by decide +kernel
theorem dX1_highOf_5 : decode cX1_highOf 5 = .ok (.iaload, 1) := by decide +kernel
theorem dX1_highOf_6 : decode cX1_highOf 6 = .ok (.aload_n 0, 1) := by decide +kernel
theorem dX1_highOf_7 : decode cX1_highOf 7 = .ok (.getfield 15, 3) := by decide +kernel
theorem dX1_highOf_10 : decode cX1_highOf 10 = .ok (.iload_n 1, 1) := by decide +kernel
theorem dX1_highOf_11 : decode cX1_highOf 11 = .ok (.iconst 1, 1) := by decide +kernel
theorem dX1_highOf_12 : decode cX1_highOf 12 = .ok (.iadd, 1) := by decide +kernel
theorem dX1_highOf_13 : decode cX1_highOf 13 = .ok (.iaload, 1) := by decide +kernel
theorem dX1_highOf_14 : decode cX1_highOf 14 = .ok (.invokestatic 41, 3) := by decide +kernel
theorem dX1_highOf_17 : decode cX1_highOf 17 = .ok (.ireturn, 1) := by decide +kernel
set_option maxRecDepth 20000 in
theorem ggX1_pieceCrosses_X1_leftOf : GoodIn wsX1_pieceCrosses wsX1_leftOf := goodIn_r _ [5, 6, 7, 8, 9, 10, 47, 48, 49] (by decide +kernel) (by decide +kernel)
set_option maxRecDepth 20000 in
theorem gX1_pieceCrosses_X1_leftOf : GoodIn wsX1_pieceCrosses (wsV RX1 44 RX1 yX1_leftOf wsX1_leftOf) := goodIn_app (goodIn_of _ (by decide +kernel)) ggX1_pieceCrosses_X1_leftOf
set_option maxRecDepth 20000 in
theorem ggX1_pieceCrosses_X1_lowOf : GoodIn wsX1_pieceCrosses wsX1_lowOf := goodIn_r _ [14, 15, 7, 8, 9, 10, 47, 48, 49] (by decide +kernel) (by decide +kernel)
set_option maxRecDepth 20000 in
theorem gX1_pieceCrosses_X1_lowOf : GoodIn wsX1_pieceCrosses (wsV RX1 47 RX1 yX1_lowOf wsX1_lowOf) := goodIn_app (goodIn_of _ (by decide +kernel)) ggX1_pieceCrosses_X1_lowOf
set_option maxRecDepth 20000 in
theorem ggX1_pieceCrosses_X1_rightOf : GoodIn wsX1_pieceCrosses wsX1_rightOf := goodIn_r _ [19, 6, 20, 21, 9, 22, 47, 48, 49] (by decide +kernel) (by decide +kernel)
set_option maxRecDepth 20000 in
theorem gX1_pieceCrosses_X1_rightOf : GoodIn wsX1_pieceCrosses (wsV RX1 50 RX1 yX1_rightOf wsX1_rightOf) := goodIn_app (goodIn_of _ (by decide +kernel)) ggX1_pieceCrosses_X1_rightOf
set_option maxRecDepth 20000 in
theorem ggX1_pieceCrosses_X1_highOf : GoodIn wsX1_pieceCrosses wsX1_highOf := goodIn_r _ [26, 15, 20, 21, 9, 22, 47, 48, 49] (by decide +kernel) (by decide +kernel)
set_option maxRecDepth 20000 in
theorem gX1_pieceCrosses_X1_highOf : GoodIn wsX1_pieceCrosses (wsV RX1 53 RX1 yX1_highOf wsX1_highOf) := goodIn_app (goodIn_of _ (by decide +kernel)) ggX1_pieceCrosses_X1_highOf
set_option maxRecDepth 20000 in
theorem ggX1_pieceCrosses_X1_boxMeets : GoodIn wsX1_pieceCrosses wsX1_boxMeets := goodIn_r _ [30, 1, 2, 3, 4, 5, 6, 7, 8, 9, 10, 16, 17, 18, 19, 20, 21, 22, 11, 12, 13, 14, 15, 23, 24, 25, 26, 47, 48, 49] (by decide +kernel) (by decide +kernel)
set_option maxRecDepth 20000 in
theorem gX1_pieceCrosses_X1_boxMeets : GoodIn wsX1_pieceCrosses (wsV RX1 56 RX1 yX1_boxMeets wsX1_boxMeets) := goodIn_app (goodIn_of _ (by decide +kernel)) ggX1_pieceCrosses_X1_boxMeets
set_option maxRecDepth 20000 in
theorem ggX1_pieceCrosses_X1_lineDivides : GoodIn wsX1_pieceCrosses wsX1_lineDivides := goodIn_r _ [34, 6, 15, 7, 8, 9, 10, 20, 21, 22, 35, 36, 37, 4, 38, 39, 40, 41, 42, 43, 44, 45, 46, 47, 48, 49] (by decide +kernel) (by decide +kernel)
set_option maxRecDepth 20000 in
theorem gX1_pieceCrosses_X1_lineDivides : GoodIn wsX1_pieceCrosses (wsV RX1 60 RX1 yX1_lineDivides wsX1_lineDivides) := goodIn_app (goodIn_of _ (by decide +kernel)) ggX1_pieceCrosses_X1_lineDivides
theorem dX1_pieceCrosses_0 : decode cX1_pieceCrosses 0 = .ok (.aload_n 0, 1) := by decide +kernel
theorem dX1_pieceCrosses_1 : decode cX1_pieceCrosses 1 = .ok (.iload_n 1, 1) := by decide +kernel
theorem dX1_pieceCrosses_2 : decode cX1_pieceCrosses 2 = .ok (.aload_n 2, 1) := by decide +kernel
theorem dX1_pieceCrosses_3 : decode cX1_pieceCrosses 3 = .ok (.iload_n 3, 1) := by decide +kernel
theorem dX1_pieceCrosses_4 : decode cX1_pieceCrosses 4 = .ok (.invokevirtual 44, 3) := by decide +kernel
theorem dX1_pieceCrosses_7 : decode cX1_pieceCrosses 7 = .ok (.aload_n 2, 1) := by decide +kernel
theorem dX1_pieceCrosses_8 : decode cX1_pieceCrosses 8 = .ok (.iload_n 3, 1) := by decide +kernel
theorem dX1_pieceCrosses_9 : decode cX1_pieceCrosses 9 = .ok (.invokevirtual 47, 3) := by decide +kernel
theorem dX1_pieceCrosses_12 : decode cX1_pieceCrosses 12 = .ok (.aload_n 2, 1) := by decide +kernel
theorem dX1_pieceCrosses_13 : decode cX1_pieceCrosses 13 = .ok (.iload_n 3, 1) := by decide +kernel
theorem dX1_pieceCrosses_14 : decode cX1_pieceCrosses 14 = .ok (.invokevirtual 50, 3) := by decide +kernel
theorem dX1_pieceCrosses_17 : decode cX1_pieceCrosses 17 = .ok (.aload_n 2, 1) := by decide +kernel
theorem dX1_pieceCrosses_18 : decode cX1_pieceCrosses 18 = .ok (.iload_n 3, 1) := by decide +kernel
theorem dX1_pieceCrosses_19 : decode cX1_pieceCrosses 19 = .ok (.invokevirtual 53, 3) := by decide +kernel
theorem dX1_pieceCrosses_22 : decode cX1_pieceCrosses 22 = .ok (.invokevirtual 56, 3) := by decide +kernel
theorem dX1_pieceCrosses_25 : decode cX1_pieceCrosses 25 = .ok (.ifCond .eq 27, 3) := by decide +kernel
theorem dX1_pieceCrosses_28 : decode cX1_pieceCrosses 28 = .ok (.aload_n 0, 1) := by decide +kernel
theorem dX1_pieceCrosses_29 : decode cX1_pieceCrosses 29 = .ok (.iload_n 1, 1) := by decide +kernel
theorem dX1_pieceCrosses_30 : decode cX1_pieceCrosses 30 = .ok (.aload_n 2, 1) := by decide +kernel
theorem dX1_pieceCrosses_31 : decode cX1_pieceCrosses 31 = .ok (.iload_n 3, 1) := by decide +kernel
theorem dX1_pieceCrosses_32 : decode cX1_pieceCrosses 32 = .ok (.invokevirtual 60, 3) := by decide +kernel
theorem dX1_pieceCrosses_35 : decode cX1_pieceCrosses 35 = .ok (.ifCond .eq 17, 3) := by decide +kernel
theorem dX1_pieceCrosses_38 : decode cX1_pieceCrosses 38 = .ok (.aload_n 2, 1) := by decide +kernel
theorem dX1_pieceCrosses_39 : decode cX1_pieceCrosses 39 = .ok (.iload_n 3, 1) := by decide +kernel
theorem dX1_pieceCrosses_40 : decode cX1_pieceCrosses 40 = .ok (.aload_n 0, 1) := by decide +kernel
theorem dX1_pieceCrosses_41 : decode cX1_pieceCrosses 41 = .ok (.iload_n 1, 1) := by decide +kernel
theorem dX1_pieceCrosses_42 : decode cX1_pieceCrosses 42 = .ok (.invokevirtual 60, 3) := by decide +kernel
theorem dX1_pieceCrosses_45 : decode cX1_pieceCrosses 45 = .ok (.ifCond .eq 7, 3) := by decide +kernel
theorem dX1_pieceCrosses_48 : decode cX1_pieceCrosses 48 = .ok (.iconst 1, 1) := by decide +kernel
theorem dX1_pieceCrosses_49 : decode cX1_pieceCrosses 49 = .ok (.goto 4, 3) := by decide +kernel
theorem dX1_pieceCrosses_52 : decode cX1_pieceCrosses 52 = .ok (.iconst 0, 1) := by decide +kernel
theorem dX1_pieceCrosses_53 : decode cX1_pieceCrosses 53 = .ok (.ireturn, 1) := by decide +kernel
set_option maxRecDepth 20000 in
theorem ggX1_boxMeets_X1_leftOf : GoodIn wsX1_boxMeets wsX1_leftOf := goodIn_r _ [5, 6, 7, 8, 9, 10, 27, 28, 29] (by decide +kernel) (by decide +kernel)
set_option maxRecDepth 20000 in
theorem gX1_boxMeets_X1_leftOf : GoodIn wsX1_boxMeets (wsV RX1 44 RX1 yX1_leftOf wsX1_leftOf) := goodIn_app (goodIn_of _ (by decide +kernel)) ggX1_boxMeets_X1_leftOf
set_option maxRecDepth 20000 in
theorem ggX1_boxMeets_X1_rightOf : GoodIn wsX1_boxMeets wsX1_rightOf := goodIn_r _ [14, 6, 15, 16, 9, 17, 27, 28, 29] (by decide +kernel) (by decide +kernel)
set_option maxRecDepth 20000 in
theorem gX1_boxMeets_X1_rightOf : GoodIn wsX1_boxMeets (wsV RX1 50 RX1 yX1_rightOf wsX1_rightOf) := goodIn_app (goodIn_of _ (by decide +kernel)) ggX1_boxMeets_X1_rightOf
set_option maxRecDepth 20000 in
theorem ggX1_boxMeets_X1_lowOf : GoodIn wsX1_boxMeets wsX1_lowOf := goodIn_r _ [21, 22, 7, 8, 9, 10, 27, 28, 29] (by decide +kernel) (by decide +kernel)
set_option maxRecDepth 20000 in
theorem gX1_boxMeets_X1_lowOf : GoodIn wsX1_boxMeets (wsV RX1 47 RX1 yX1_lowOf wsX1_lowOf) := goodIn_app (goodIn_of _ (by decide +kernel)) ggX1_boxMeets_X1_lowOf
set_option maxRecDepth 20000 in
theorem ggX1_boxMeets_X1_highOf : GoodIn wsX1_boxMeets wsX1_highOf := goodIn_r _ [26, 22, 15, 16, 9, 17, 27, 28, 29] (by decide +kernel) (by decide +kernel)
set_option maxRecDepth 20000 in
theorem gX1_boxMeets_X1_highOf : GoodIn wsX1_boxMeets (wsV RX1 53 RX1 yX1_highOf wsX1_highOf) := goodIn_app (goodIn_of _ (by decide +kernel)) ggX1_boxMeets_X1_highOf
theorem dX1_boxMeets_0 : decode cX1_boxMeets 0 = .ok (.aload_n 0, 1) := by decide +kernel
theorem dX1_boxMeets_1 : decode cX1_boxMeets 1 = .ok (.iload_n 1, 1) := by decide +kernel
theorem dX1_boxMeets_2 : decode cX1_boxMeets 2 = .ok (.invokevirtual 44, 3) := by decide +kernel
theorem dX1_boxMeets_5 : decode cX1_boxMeets 5 = .ok (.iload 4, 2) := by decide +kernel
theorem dX1_boxMeets_7 : decode cX1_boxMeets 7 = .ok (.if_icmp .gt 35, 3) := by decide +kernel
theorem dX1_boxMeets_10 : decode cX1_boxMeets 10 = .ok (.aload_n 0, 1) := by decide +kernel
theorem dX1_boxMeets_11 : decode cX1_boxMeets 11 = .ok (.iload_n 1, 1) := by decide +kernel
theorem dX1_boxMeets_12 : decode cX1_boxMeets 12 = .ok (.invokevirtual 50, 3) := by decide +kernel
theorem dX1_boxMeets_15 : decode cX1_boxMeets 15 = .ok (.iload_n 2, 1) := by decide +kernel
theorem dX1_boxMeets_16 : decode cX1_boxMeets 16 = .ok (.if_icmp .lt 26, 3) := by decide +kernel
theorem dX1_boxMeets_19 : decode cX1_boxMeets 19 = .ok (.aload_n 0, 1) := by decide +kernel
theorem dX1_boxMeets_20 : decode cX1_boxMeets 20 = .ok (.iload_n 1, 1) := by decide +kernel
theorem dX1_boxMeets_21 : decode cX1_boxMeets 21 = .ok (.invokevirtual 47, 3) := by decide +kernel
theorem dX1_boxMeets_24 : decode cX1_boxMeets 24 = .ok (.iload 5, 2) := by decide +kernel
theorem dX1_boxMeets_26 : decode cX1_boxMeets 26 = .ok (.if_icmp .gt 16, 3) := by decide +kernel
theorem dX1_boxMeets_29 : decode cX1_boxMeets 29 = .ok (.aload_n 0, 1) := by decide +kernel
theorem dX1_boxMeets_30 : decode cX1_boxMeets 30 = .ok (.iload_n 1, 1) := by decide +kernel
theorem dX1_boxMeets_31 : decode cX1_boxMeets 31 = .ok (.invokevirtual 53, 3) := by decide +kernel
theorem dX1_boxMeets_34 : decode cX1_boxMeets 34 = .ok (.iload_n 3, 1) := by decide +kernel
theorem dX1_boxMeets_35 : decode cX1_boxMeets 35 = .ok (.if_icmp .lt 7, 3) := by decide +kernel
theorem dX1_boxMeets_38 : decode cX1_boxMeets 38 = .ok (.iconst 1, 1) := by decide +kernel
theorem dX1_boxMeets_39 : decode cX1_boxMeets 39 = .ok (.goto 4, 3) := by decide +kernel
theorem dX1_boxMeets_42 : decode cX1_boxMeets 42 = .ok (.iconst 0, 1) := by decide +kernel
theorem dX1_boxMeets_43 : decode cX1_boxMeets 43 = .ok (.ireturn, 1) := by decide +kernel
set_option maxRecDepth 20000 in
theorem ggX1_lineDivides_X1_sideOf : GoodIn wsX1_lineDivides wsX1_sideOf := goodIn_r _ [14, 2, 1, 15, 16, 17, 13, 18, 19, 20, 21, 22, 23, 24, 25] (by decide +kernel) (by decide +kernel)
set_option maxRecDepth 20000 in
theorem gX1_lineDivides_X1_sideOf : GoodIn wsX1_lineDivides (wsV RX1 64 RX1 yX1_sideOf wsX1_sideOf) := goodIn_app (goodIn_of _ (by decide +kernel)) ggX1_lineDivides_X1_sideOf
theorem dX1_lineDivides_0 : decode cX1_lineDivides 0 = .ok (.aload_n 0, 1) := by decide +kernel
theorem dX1_lineDivides_1 : decode cX1_lineDivides 1 = .ok (.iload_n 1, 1) := by decide +kernel
theorem dX1_lineDivides_2 : decode cX1_lineDivides 2 = .ok (.aload_n 2, 1) := by decide +kernel
theorem dX1_lineDivides_3 : decode cX1_lineDivides 3 = .ok (.getfield 9, 3) := by decide +kernel
theorem dX1_lineDivides_6 : decode cX1_lineDivides 6 = .ok (.iload_n 3, 1) := by decide +kernel
theorem dX1_lineDivides_7 : decode cX1_lineDivides 7 = .ok (.iaload, 1) := by decide +kernel
theorem dX1_lineDivides_8 : decode cX1_lineDivides 8 = .ok (.aload_n 2, 1) := by decide +kernel
theorem dX1_lineDivides_9 : decode cX1_lineDivides 9 = .ok (.getfield 15, 3) := by decide +kernel
theorem dX1_lineDivides_12 : decode cX1_lineDivides 12 = .ok (.iload_n 3, 1) := by decide +kernel
theorem dX1_lineDivides_13 : decode cX1_lineDivides 13 = .ok (.iaload, 1) := by decide +kernel
theorem dX1_lineDivides_14 : decode cX1_lineDivides 14 = .ok (.invokevirtual 64, 3) := by decide +kernel
theorem dX1_lineDivides_17 : decode cX1_lineDivides 17 = .ok (.istore 4, 2) := by decide +kernel
theorem dX1_lineDivides_19 : decode cX1_lineDivides 19 = .ok (.aload_n 0, 1) := by decide +kernel
theorem dX1_lineDivides_20 : decode cX1_lineDivides 20 = .ok (.iload_n 1, 1) := by decide +kernel
theorem dX1_lineDivides_21 : decode cX1_lineDivides 21 = .ok (.aload_n 2, 1) := by decide +kernel
theorem dX1_lineDivides_22 : decode cX1_lineDivides 22 = .ok (.getfield 9, 3) := by decide +kernel
theorem dX1_lineDivides_25 : decode cX1_lineDivides 25 = .ok (.iload_n 3, 1) := by decide +kernel
theorem dX1_lineDivides_26 : decode cX1_lineDivides 26 = .ok (.iconst 1, 1) := by decide +kernel
theorem dX1_lineDivides_27 : decode cX1_lineDivides 27 = .ok (.iadd, 1) := by decide +kernel
theorem dX1_lineDivides_28 : decode cX1_lineDivides 28 = .ok (.iaload, 1) := by decide +kernel
theorem dX1_lineDivides_29 : decode cX1_lineDivides 29 = .ok (.aload_n 2, 1) := by decide +kernel
theorem dX1_lineDivides_30 : decode cX1_lineDivides 30 = .ok (.getfield 15, 3) := by decide +kernel
theorem dX1_lineDivides_33 : decode cX1_lineDivides 33 = .ok (.iload_n 3, 1) := by decide +kernel
theorem dX1_lineDivides_34 : decode cX1_lineDivides 34 = .ok (.iconst 1, 1) := by decide +kernel
theorem dX1_lineDivides_35 : decode cX1_lineDivides 35 = .ok (.iadd, 1) := by decide +kernel
theorem dX1_lineDivides_36 : decode cX1_lineDivides 36 = .ok (.iaload, 1) := by decide +kernel
theorem dX1_lineDivides_37 : decode cX1_lineDivides 37 = .ok (.invokevirtual 64, 3) := by decide +kernel
theorem dX1_lineDivides_40 : decode cX1_lineDivides 40 = .ok (.istore 5, 2) := by decide +kernel
theorem dX1_lineDivides_42 : decode cX1_lineDivides 42 = .ok (.iload 4, 2) := by decide +kernel
theorem dX1_lineDivides_44 : decode cX1_lineDivides 44 = .ok (.iload 5, 2) := by decide +kernel
theorem dX1_lineDivides_46 : decode cX1_lineDivides 46 = .ok (.invokestatic 35, 3) := by decide +kernel
theorem dX1_lineDivides_49 : decode cX1_lineDivides 49 = .ok (.ifCond .gt 17, 3) := by decide +kernel
theorem dX1_lineDivides_52 : decode cX1_lineDivides 52 = .ok (.iload 4, 2) := by decide +kernel
theorem dX1_lineDivides_54 : decode cX1_lineDivides 54 = .ok (.iload 5, 2) := by decide +kernel
theorem dX1_lineDivides_56 : decode cX1_lineDivides 56 = .ok (.invokestatic 41, 3) := by decide +kernel
theorem dX1_lineDivides_59 : decode cX1_lineDivides 59 = .ok (.ifCond .lt 7, 3) := by decide +kernel
theorem dX1_lineDivides_62 : decode cX1_lineDivides 62 = .ok (.iconst 1, 1) := by decide +kernel
theorem dX1_lineDivides_63 : decode cX1_lineDivides 63 = .ok (.goto 4, 3) := by decide +kernel
theorem dX1_lineDivides_66 : decode cX1_lineDivides 66 = .ok (.iconst 0, 1) := by decide +kernel
theorem dX1_lineDivides_67 : decode cX1_lineDivides 67 = .ok (.ireturn, 1) := by decide +kernel
set_option maxRecDepth 20000 in
theorem ggX1_pieceIsSteepTo_X1_width : GoodIn wsX1_pieceIsSteepTo wsX1_width := goodIn_r _ [9, 10, 16, 17, 18] (by decide +kernel) (by decide +kernel)
set_option maxRecDepth 20000 in
theorem gX1_pieceIsSteepTo_X1_width : GoodIn wsX1_pieceIsSteepTo (wsV RX1 28 RX1 yX1_width wsX1_width) := goodIn_app (goodIn_of _ (by decide +kernel)) ggX1_pieceIsSteepTo_X1_width
set_option maxRecDepth 20000 in
theorem ggX1_pieceIsSteepTo_X1_height : GoodIn wsX1_pieceIsSteepTo wsX1_height := goodIn_r _ [14, 15, 16, 17, 18] (by decide +kernel) (by decide +kernel)
set_option maxRecDepth 20000 in
theorem gX1_pieceIsSteepTo_X1_height : GoodIn wsX1_pieceIsSteepTo (wsV RX1 32 RX1 yX1_height wsX1_height) := goodIn_app (goodIn_of _ (by decide +kernel)) ggX1_pieceIsSteepTo_X1_height
theorem dX1_pieceIsSteepTo_0 : decode cX1_pieceIsSteepTo 0 = .ok (.aload_n 0, 1) := by decide +kernel
theorem dX1_pieceIsSteepTo_1 : decode cX1_pieceIsSteepTo 1 = .ok (.iload_n 1, 1) := by decide +kernel
theorem dX1_pieceIsSteepTo_2 : decode cX1_pieceIsSteepTo 2 = .ok (.invokevirtual 28, 3) := by decide +kernel
theorem dX1_pieceIsSteepTo_5 : decode cX1_pieceIsSteepTo 5 = .ok (.istore 4, 2) := by decide +kernel
theorem dX1_pieceIsSteepTo_7 : decode cX1_pieceIsSteepTo 7 = .ok (.aload_n 0, 1) := by decide +kernel
theorem dX1_pieceIsSteepTo_8 : decode cX1_pieceIsSteepTo 8 = .ok (.iload_n 1, 1) := by decide +kernel
theorem dX1_pieceIsSteepTo_9 : decode cX1_pieceIsSteepTo 9 = .ok (.invokevirtual 32, 3) := by decide +kernel
theorem dX1_pieceIsSteepTo_12 : decode cX1_pieceIsSteepTo 12 = .ok (.istore 5, 2) := by decide +kernel
theorem dX1_pieceIsSteepTo_14 : decode cX1_pieceIsSteepTo 14 = .ok (.aload_n 2, 1) := by decide +kernel
theorem dX1_pieceIsSteepTo_15 : decode cX1_pieceIsSteepTo 15 = .ok (.iload_n 3, 1) := by decide +kernel
theorem dX1_pieceIsSteepTo_16 : decode cX1_pieceIsSteepTo 16 = .ok (.invokevirtual 28, 3) := by decide +kernel
theorem dX1_pieceIsSteepTo_19 : decode cX1_pieceIsSteepTo 19 = .ok (.istore 6, 2) := by decide +kernel
theorem dX1_pieceIsSteepTo_21 : decode cX1_pieceIsSteepTo 21 = .ok (.aload_n 2, 1) := by decide +kernel
theorem dX1_pieceIsSteepTo_22 : decode cX1_pieceIsSteepTo 22 = .ok (.iload_n 3, 1) := by decide +kernel
theorem dX1_pieceIsSteepTo_23 : decode cX1_pieceIsSteepTo 23 = .ok (.invokevirtual 32, 3) := by decide +kernel
theorem dX1_pieceIsSteepTo_26 : decode cX1_pieceIsSteepTo 26 = .ok (.istore 7, 2) := by decide +kernel
theorem dX1_pieceIsSteepTo_28 : decode cX1_pieceIsSteepTo 28 = .ok (.iload 4, 2) := by decide +kernel
theorem dX1_pieceIsSteepTo_30 : decode cX1_pieceIsSteepTo 30 = .ok (.iload 6, 2) := by decide +kernel
theorem dX1_pieceIsSteepTo_32 : decode cX1_pieceIsSteepTo 32 = .ok (.imul, 1) := by decide +kernel
theorem dX1_pieceIsSteepTo_33 : decode cX1_pieceIsSteepTo 33 = .ok (.iload 5, 2) := by decide +kernel
theorem dX1_pieceIsSteepTo_35 : decode cX1_pieceIsSteepTo 35 = .ok (.iload 7, 2) := by decide +kernel
theorem dX1_pieceIsSteepTo_37 : decode cX1_pieceIsSteepTo 37 = .ok (.imul, 1) := by decide +kernel
theorem dX1_pieceIsSteepTo_38 : decode cX1_pieceIsSteepTo 38 = .ok (.iadd, 1) := by decide +kernel
theorem dX1_pieceIsSteepTo_39 : decode cX1_pieceIsSteepTo 39 = .ok (.invokestatic 68, 3) := by decide +kernel
theorem dX1_pieceIsSteepTo_42 : decode cX1_pieceIsSteepTo 42 = .ok (.iload 4, 2) := by decide +kernel
theorem dX1_pieceIsSteepTo_44 : decode cX1_pieceIsSteepTo 44 = .ok (.iload 7, 2) := by decide +kernel
theorem dX1_pieceIsSteepTo_46 : decode cX1_pieceIsSteepTo 46 = .ok (.imul, 1) := by decide +kernel
theorem dX1_pieceIsSteepTo_47 : decode cX1_pieceIsSteepTo 47 = .ok (.iload 5, 2) := by decide +kernel
theorem dX1_pieceIsSteepTo_49 : decode cX1_pieceIsSteepTo 49 = .ok (.iload 6, 2) := by decide +kernel
theorem dX1_pieceIsSteepTo_51 : decode cX1_pieceIsSteepTo 51 = .ok (.imul, 1) := by decide +kernel
theorem dX1_pieceIsSteepTo_52 : decode cX1_pieceIsSteepTo 52 = .ok (.isub, 1) := by decide +kernel
theorem dX1_pieceIsSteepTo_53 : decode cX1_pieceIsSteepTo 53 = .ok (.invokestatic 68, 3) := by decide +kernel
theorem dX1_pieceIsSteepTo_56 : decode cX1_pieceIsSteepTo 56 = .ok (.if_icmp .gt 7, 3) := by decide +kernel
theorem dX1_pieceIsSteepTo_59 : decode cX1_pieceIsSteepTo 59 = .ok (.iconst 1, 1) := by decide +kernel
theorem dX1_pieceIsSteepTo_60 : decode cX1_pieceIsSteepTo 60 = .ok (.goto 4, 3) := by decide +kernel
theorem dX1_pieceIsSteepTo_63 : decode cX1_pieceIsSteepTo 63 = .ok (.iconst 0, 1) := by decide +kernel
theorem dX1_pieceIsSteepTo_64 : decode cX1_pieceIsSteepTo 64 = .ok (.ireturn, 1) := by decide +kernel
set_option maxRecDepth 20000 in
theorem ggX1_pieceMeets_X1_boxMeets : GoodIn wsX1_pieceMeets wsX1_boxMeets := goodIn_r _ [5, 6, 7, 8, 4, 9, 10, 11, 12, 13, 14, 15, 16, 17, 18, 19, 20, 21, 22, 23, 24, 25, 26, 27, 28, 29, 30, 56, 57, 58] (by decide +kernel) (by decide +kernel)
set_option maxRecDepth 20000 in
theorem gX1_pieceMeets_X1_boxMeets : GoodIn wsX1_pieceMeets (wsV RX1 56 RX1 yX1_boxMeets wsX1_boxMeets) := goodIn_app (goodIn_of _ (by decide +kernel)) ggX1_pieceMeets_X1_boxMeets
set_option maxRecDepth 20000 in
theorem ggX1_pieceMeets_X1_lineMeets : GoodIn wsX1_pieceMeets wsX1_lineMeets := goodIn_r _ [34, 11, 12, 13, 14, 19, 20, 21, 35, 36, 37, 4, 38, 26, 10, 39, 40, 41, 42, 43, 44, 45, 46, 47, 48, 49, 50, 51, 52, 53, 54, 55, 56, 57, 58] (by decide +kernel) (by decide +kernel)
set_option maxRecDepth 20000 in
theorem gX1_pieceMeets_X1_lineMeets : GoodIn wsX1_pieceMeets (wsV RX1 85 RX1 yX1_lineMeets wsX1_lineMeets) := goodIn_app (goodIn_of _ (by decide +kernel)) ggX1_pieceMeets_X1_lineMeets
theorem dX1_pieceMeets_0 : decode cX1_pieceMeets 0 = .ok (.aload_n 0, 1) := by decide +kernel
theorem dX1_pieceMeets_1 : decode cX1_pieceMeets 1 = .ok (.iload_n 1, 1) := by decide +kernel
theorem dX1_pieceMeets_2 : decode cX1_pieceMeets 2 = .ok (.aload_n 2, 1) := by decide +kernel
theorem dX1_pieceMeets_3 : decode cX1_pieceMeets 3 = .ok (.getfield 71, 3) := by decide +kernel
theorem dX1_pieceMeets_6 : decode cX1_pieceMeets 6 = .ok (.aload_n 2, 1) := by decide +kernel
theorem dX1_pieceMeets_7 : decode cX1_pieceMeets 7 = .ok (.getfield 76, 3) := by decide +kernel
theorem dX1_pieceMeets_10 : decode cX1_pieceMeets 10 = .ok (.aload_n 2, 1) := by decide +kernel
theorem dX1_pieceMeets_11 : decode cX1_pieceMeets 11 = .ok (.getfield 79, 3) := by decide +kernel
theorem dX1_pieceMeets_14 : decode cX1_pieceMeets 14 = .ok (.aload_n 2, 1) := by decide +kernel
theorem dX1_pieceMeets_15 : decode cX1_pieceMeets 15 = .ok (.getfield 82, 3) := by decide +kernel
theorem dX1_pieceMeets_18 : decode cX1_pieceMeets 18 = .ok (.invokevirtual 56, 3) := by decide +kernel
theorem dX1_pieceMeets_21 : decode cX1_pieceMeets 21 = .ok (.ifCond .eq 16, 3) := by decide +kernel
theorem dX1_pieceMeets_24 : decode cX1_pieceMeets 24 = .ok (.aload_n 0, 1) := by decide +kernel
theorem dX1_pieceMeets_25 : decode cX1_pieceMeets 25 = .ok (.iload_n 1, 1) := by decide +kernel
theorem dX1_pieceMeets_26 : decode cX1_pieceMeets 26 = .ok (.aload_n 2, 1) := by decide +kernel
theorem dX1_pieceMeets_27 : decode cX1_pieceMeets 27 = .ok (.invokevirtual 85, 3) := by decide +kernel
theorem dX1_pieceMeets_30 : decode cX1_pieceMeets 30 = .ok (.ifCond .eq 7, 3) := by decide +kernel
theorem dX1_pieceMeets_33 : decode cX1_pieceMeets 33 = .ok (.iconst 1, 1) := by decide +kernel
theorem dX1_pieceMeets_34 : decode cX1_pieceMeets 34 = .ok (.goto 4, 3) := by decide +kernel
theorem dX1_pieceMeets_37 : decode cX1_pieceMeets 37 = .ok (.iconst 0, 1) := by decide +kernel
theorem dX1_pieceMeets_38 : decode cX1_pieceMeets 38 = .ok (.ireturn, 1) := by decide +kernel
set_option maxRecDepth 20000 in
theorem ggX1_lineMeets_X1_sideOf : GoodIn wsX1_lineMeets wsX1_sideOf := goodIn_r _ [12, 13, 14, 15, 16, 17, 11, 18, 19, 20, 21, 22, 32, 33, 34] (by decide +kernel) (by decide +kernel)
set_option maxRecDepth 20000 in
theorem gX1_lineMeets_X1_sideOf : GoodIn wsX1_lineMeets (wsV RX1 64 RX1 yX1_sideOf wsX1_sideOf) := goodIn_app (goodIn_of _ (by decide +kernel)) ggX1_lineMeets_X1_sideOf
theorem dX1_lineMeets_0 : decode cX1_lineMeets 0 = .ok (.aload_n 0, 1) := by decide +kernel
theorem dX1_lineMeets_1 : decode cX1_lineMeets 1 = .ok (.iload_n 1, 1) := by decide +kernel
theorem dX1_lineMeets_2 : decode cX1_lineMeets 2 = .ok (.aload_n 2, 1) := by decide +kernel
theorem dX1_lineMeets_3 : decode cX1_lineMeets 3 = .ok (.getfield 71, 3) := by decide +kernel
theorem dX1_lineMeets_6 : decode cX1_lineMeets 6 = .ok (.aload_n 2, 1) := by decide +kernel
theorem dX1_lineMeets_7 : decode cX1_lineMeets 7 = .ok (.getfield 76, 3) := by decide +kernel
theorem dX1_lineMeets_10 : decode cX1_lineMeets 10 = .ok (.invokevirtual 64, 3) := by decide +kernel
theorem dX1_lineMeets_13 : decode cX1_lineMeets 13 = .ok (.istore_n 3, 1) := by decide +kernel
theorem dX1_lineMeets_14 : decode cX1_lineMeets 14 = .ok (.aload_n 0, 1) := by decide +kernel
theorem dX1_lineMeets_15 : decode cX1_lineMeets 15 = .ok (.iload_n 1, 1) := by decide +kernel
theorem dX1_lineMeets_16 : decode cX1_lineMeets 16 = .ok (.aload_n 2, 1) := by decide +kernel
theorem dX1_lineMeets_17 : decode cX1_lineMeets 17 = .ok (.getfield 79, 3) := by decide +kernel
theorem dX1_lineMeets_20 : decode cX1_lineMeets 20 = .ok (.aload_n 2, 1) := by decide +kernel
theorem dX1_lineMeets_21 : decode cX1_lineMeets 21 = .ok (.getfield 76, 3) := by decide +kernel
theorem dX1_lineMeets_24 : decode cX1_lineMeets 24 = .ok (.invokevirtual 64, 3) := by decide +kernel
theorem dX1_lineMeets_27 : decode cX1_lineMeets 27 = .ok (.istore 4, 2) := by decide +kernel
theorem dX1_lineMeets_29 : decode cX1_lineMeets 29 = .ok (.aload_n 0, 1) := by decide +kernel
theorem dX1_lineMeets_30 : decode cX1_lineMeets 30 = .ok (.iload_n 1, 1) := by decide +kernel
theorem dX1_lineMeets_31 : decode cX1_lineMeets 31 = .ok (.aload_n 2, 1) := by decide +kernel
theorem dX1_lineMeets_32 : decode cX1_lineMeets 32 = .ok (.getfield 71, 3) := by decide +kernel
theorem dX1_lineMeets_35 : decode cX1_lineMeets 35 = .ok (.aload_n 2, 1) := by decide +kernel
theorem dX1_lineMeets_36 : decode cX1_lineMeets 36 = .ok (.getfield 82, 3) := by decide +kernel
theorem dX1_lineMeets_39 : decode cX1_lineMeets 39 = .ok (.invokevirtual 64, 3) := by decide +kernel
theorem dX1_lineMeets_42 : decode cX1_lineMeets 42 = .ok (.istore 5, 2) := by decide +kernel
theorem dX1_lineMeets_44 : decode cX1_lineMeets 44 = .ok (.aload_n 0, 1) := by decide +kernel
theorem dX1_lineMeets_45 : decode cX1_lineMeets 45 = .ok (.iload_n 1, 1) := by decide +kernel
theorem dX1_lineMeets_46 : decode cX1_lineMeets 46 = .ok (.aload_n 2, 1) := by decide +kernel
theorem dX1_lineMeets_47 : decode cX1_lineMeets 47 = .ok (.getfield 79, 3) := by decide +kernel
theorem dX1_lineMeets_50 : decode cX1_lineMeets 50 = .ok (.aload_n 2, 1) := by decide +kernel
theorem dX1_lineMeets_51 : decode cX1_lineMeets 51 = .ok (.getfield 82, 3) := by decide +kernel
theorem dX1_lineMeets_54 : decode cX1_lineMeets 54 = .ok (.invokevirtual 64, 3) := by decide +kernel
theorem dX1_lineMeets_57 : decode cX1_lineMeets 57 = .ok (.istore 6, 2) := by decide +kernel
theorem dX1_lineMeets_59 : decode cX1_lineMeets 59 = .ok (.iload_n 3, 1) := by decide +kernel
theorem dX1_lineMeets_60 : decode cX1_lineMeets 60 = .ok (.iload 4, 2) := by decide +kernel
theorem dX1_lineMeets_62 : decode cX1_lineMeets 62 = .ok (.invokestatic 35, 3) := by decide +kernel
theorem dX1_lineMeets_65 : decode cX1_lineMeets 65 = .ok (.iload 5, 2) := by decide +kernel
theorem dX1_lineMeets_67 : decode cX1_lineMeets 67 = .ok (.iload 6, 2) := by decide +kernel
theorem dX1_lineMeets_69 : decode cX1_lineMeets 69 = .ok (.invokestatic 35, 3) := by decide +kernel
theorem dX1_lineMeets_72 : decode cX1_lineMeets 72 = .ok (.invokestatic 35, 3) := by decide +kernel
theorem dX1_lineMeets_75 : decode cX1_lineMeets 75 = .ok (.ifCond .gt 26, 3) := by decide +kernel
theorem dX1_lineMeets_78 : decode cX1_lineMeets 78 = .ok (.iload_n 3, 1) := by decide +kernel
theorem dX1_lineMeets_79 : decode cX1_lineMeets 79 = .ok (.iload 4, 2) := by decide +kernel
theorem dX1_lineMeets_81 : decode cX1_lineMeets 81 = .ok (.invokestatic 41, 3) := by decide +kernel
theorem dX1_lineMeets_84 : decode cX1_lineMeets 84 = .ok (.iload 5, 2) := by decide +kernel
theorem dX1_lineMeets_86 : decode cX1_lineMeets 86 = .ok (.iload 6, 2) := by decide +kernel
theorem dX1_lineMeets_88 : decode cX1_lineMeets 88 = .ok (.invokestatic 41, 3) := by decide +kernel
theorem dX1_lineMeets_91 : decode cX1_lineMeets 91 = .ok (.invokestatic 41, 3) := by decide +kernel
theorem dX1_lineMeets_94 : decode cX1_lineMeets 94 = .ok (.ifCond .lt 7, 3) := by decide +kernel
theorem dX1_lineMeets_97 : decode cX1_lineMeets 97 = .ok (.iconst 1, 1) := by decide +kernel
theorem dX1_lineMeets_98 : decode cX1_lineMeets 98 = .ok (.goto 4, 3) := by decide +kernel
theorem dX1_lineMeets_101 : decode cX1_lineMeets 101 = .ok (.iconst 0, 1) := by decide +kernel
theorem dX1_lineMeets_102 : decode cX1_lineMeets 102 = .ok (.ireturn, 1) := by decide +kernel
theorem dJ13_bitCount_95d88_0 : decode cJ13_bitCount_95d88 0 = .ok (.lload_n 0, 1) := by decide +kernel
theorem dJ13_bitCount_95d88_1 : decode cJ13_bitCount_95d88 1 = .ok (.lload_n 0, 1) := by decide +kernel
theorem dJ13_bitCount_95d88_2 : decode cJ13_bitCount_95d88 2 = .ok (.iconst 1, 1) := by decide +kernel
theorem dJ13_bitCount_95d88_3 : decode cJ13_bitCount_95d88 3 = .ok (.lushr, 1) := by decide +kernel
theorem dJ13_bitCount_95d88_4 : decode cJ13_bitCount_95d88 4 = .ok (.ldc2_w 314, 3) := by decide +kernel
theorem dJ13_bitCount_95d88_7 : decode cJ13_bitCount_95d88 7 = .ok (.land, 1) := by decide +kernel
theorem dJ13_bitCount_95d88_8 : decode cJ13_bitCount_95d88 8 = .ok (.lsub, 1) := by decide +kernel
theorem dJ13_bitCount_95d88_9 : decode cJ13_bitCount_95d88 9 = .ok (.lstore_n 0, 1) := by decide +kernel
theorem dJ13_bitCount_95d88_10 : decode cJ13_bitCount_95d88 10 = .ok (.lload_n 0, 1) := by decide +kernel
theorem dJ13_bitCount_95d88_11 : decode cJ13_bitCount_95d88 11 = .ok (.ldc2_w 316, 3) := by decide +kernel
theorem dJ13_bitCount_95d88_14 : decode cJ13_bitCount_95d88 14 = .ok (.land, 1) := by decide +kernel
theorem dJ13_bitCount_95d88_15 : decode cJ13_bitCount_95d88 15 = .ok (.lload_n 0, 1) := by decide +kernel
theorem dJ13_bitCount_95d88_16 : decode cJ13_bitCount_95d88 16 = .ok (.iconst 2, 1) := by decide +kernel
theorem dJ13_bitCount_95d88_17 : decode cJ13_bitCount_95d88 17 = .ok (.lushr, 1) := by decide +kernel
theorem dJ13_bitCount_95d88_18 : decode cJ13_bitCount_95d88 18 = .ok (.ldc2_w 316, 3) := by decide +kernel
theorem dJ13_bitCount_95d88_21 : decode cJ13_bitCount_95d88 21 = .ok (.land, 1) := by decide +kernel
theorem dJ13_bitCount_95d88_22 : decode cJ13_bitCount_95d88 22 = .ok (.ladd, 1) := by decide +kernel
theorem dJ13_bitCount_95d88_23 : decode cJ13_bitCount_95d88 23 = .ok (.lstore_n 0, 1) := by decide +kernel
theorem dJ13_bitCount_95d88_24 : decode cJ13_bitCount_95d88 24 = .ok (.lload_n 0, 1) := by decide +kernel
theorem dJ13_bitCount_95d88_25 : decode cJ13_bitCount_95d88 25 = .ok (.lload_n 0, 1) := by decide +kernel
theorem dJ13_bitCount_95d88_26 : decode cJ13_bitCount_95d88 26 = .ok (.iconst 4, 1) := by decide +kernel
theorem dJ13_bitCount_95d88_27 : decode cJ13_bitCount_95d88 27 = .ok (.lushr, 1) := by decide +kernel
theorem dJ13_bitCount_95d88_28 : decode cJ13_bitCount_95d88 28 = .ok (.ladd, 1) := by decide +kernel
theorem dJ13_bitCount_95d88_29 : decode cJ13_bitCount_95d88 29 = .ok (.ldc2_w 318, 3) := by decide +kernel
theorem dJ13_bitCount_95d88_32 : decode cJ13_bitCount_95d88 32 = .ok (.land, 1) := by decide +kernel
theorem dJ13_bitCount_95d88_33 : decode cJ13_bitCount_95d88 33 = .ok (.lstore_n 0, 1) := by decide +kernel
theorem dJ13_bitCount_95d88_34 : decode cJ13_bitCount_95d88 34 = .ok (.lload_n 0, 1) := by decide +kernel
theorem dJ13_bitCount_95d88_35 : decode cJ13_bitCount_95d88 35 = .ok (.lload_n 0, 1) := by decide +kernel
theorem dJ13_bitCount_95d88_36 : decode cJ13_bitCount_95d88 36 = .ok (.bipush 8, 2) := by decide +kernel
theorem dJ13_bitCount_95d88_38 : decode cJ13_bitCount_95d88 38 = .ok (.lushr, 1) := by decide +kernel
theorem dJ13_bitCount_95d88_39 : decode cJ13_bitCount_95d88 39 = .ok (.ladd, 1) := by decide +kernel
theorem dJ13_bitCount_95d88_40 : decode cJ13_bitCount_95d88 40 = .ok (.lstore_n 0, 1) := by decide +kernel
theorem dJ13_bitCount_95d88_41 : decode cJ13_bitCount_95d88 41 = .ok (.lload_n 0, 1) := by decide +kernel
theorem dJ13_bitCount_95d88_42 : decode cJ13_bitCount_95d88 42 = .ok (.lload_n 0, 1) := by decide +kernel
theorem dJ13_bitCount_95d88_43 : decode cJ13_bitCount_95d88 43 = .ok (.bipush 16, 2) := by decide +kernel
theorem dJ13_bitCount_95d88_45 : decode cJ13_bitCount_95d88 45 = .ok (.lushr, 1) := by decide +kernel
theorem dJ13_bitCount_95d88_46 : decode cJ13_bitCount_95d88 46 = .ok (.ladd, 1) := by decide +kernel
theorem dJ13_bitCount_95d88_47 : decode cJ13_bitCount_95d88 47 = .ok (.lstore_n 0, 1) := by decide +kernel
theorem dJ13_bitCount_95d88_48 : decode cJ13_bitCount_95d88 48 = .ok (.lload_n 0, 1) := by decide +kernel
theorem dJ13_bitCount_95d88_49 : decode cJ13_bitCount_95d88 49 = .ok (.lload_n 0, 1) := by decide +kernel
theorem dJ13_bitCount_95d88_50 : decode cJ13_bitCount_95d88 50 = .ok (.bipush 32, 2) := by decide +kernel
theorem dJ13_bitCount_95d88_52 : decode cJ13_bitCount_95d88 52 = .ok (.lushr, 1) := by decide +kernel
theorem dJ13_bitCount_95d88_53 : decode cJ13_bitCount_95d88 53 = .ok (.ladd, 1) := by decide +kernel
theorem dJ13_bitCount_95d88_54 : decode cJ13_bitCount_95d88 54 = .ok (.lstore_n 0, 1) := by decide +kernel
theorem dJ13_bitCount_95d88_55 : decode cJ13_bitCount_95d88 55 = .ok (.lload_n 0, 1) := by decide +kernel
theorem dJ13_bitCount_95d88_56 : decode cJ13_bitCount_95d88 56 = .ok (.l2i, 1) := by decide +kernel
theorem dJ13_bitCount_95d88_57 : decode cJ13_bitCount_95d88 57 = .ok (.bipush 127, 2) := by decide +kernel
theorem dJ13_bitCount_95d88_59 : decode cJ13_bitCount_95d88 59 = .ok (.iand, 1) := by decide +kernel
theorem dJ13_bitCount_95d88_60 : decode cJ13_bitCount_95d88 60 = .ok (.ireturn, 1) := by decide +kernel
theorem dJ9_abs_0f7a4_0 : decode cJ9_abs_0f7a4 0 = .ok (.iload_n 0, 1) := by decide +kernel
theorem dJ9_abs_0f7a4_1 : decode cJ9_abs_0f7a4 1 = .ok (.ifCond .ge 8, 3) := by decide +kernel
theorem dJ9_abs_0f7a4_4 : decode cJ9_abs_0f7a4 4 = .ok (.iload_n 0, 1) := by decide +kernel
theorem dJ9_abs_0f7a4_5 : decode cJ9_abs_0f7a4 5 = .ok (.ineg, 1) := by decide +kernel
theorem dJ9_abs_0f7a4_6 : decode cJ9_abs_0f7a4 6 = .ok (.goto 4, 3) := by decide +kernel
theorem dJ9_abs_0f7a4_9 : decode cJ9_abs_0f7a4 9 = .ok (.iload_n 0, 1) := by decide +kernel
theorem dJ9_abs_0f7a4_10 : decode cJ9_abs_0f7a4 10 = .ok (.ireturn, 1) := by decide +kernel
theorem dJ9_max_7cf53_0 : decode cJ9_max_7cf53 0 = .ok (.iload_n 0, 1) := by decide +kernel
theorem dJ9_max_7cf53_1 : decode cJ9_max_7cf53 1 = .ok (.iload_n 1, 1) := by decide +kernel
theorem dJ9_max_7cf53_2 : decode cJ9_max_7cf53 2 = .ok (.if_icmp .lt 7, 3) := by decide +kernel
theorem dJ9_max_7cf53_5 : decode cJ9_max_7cf53 5 = .ok (.iload_n 0, 1) := by decide +kernel
theorem dJ9_max_7cf53_6 : decode cJ9_max_7cf53 6 = .ok (.goto 4, 3) := by decide +kernel
theorem dJ9_max_7cf53_9 : decode cJ9_max_7cf53 9 = .ok (.iload_n 1, 1) := by decide +kernel
theorem dJ9_max_7cf53_10 : decode cJ9_max_7cf53 10 = .ok (.ireturn, 1) := by decide +kernel
theorem dJ9_min_7cf53_0 : decode cJ9_min_7cf53 0 = .ok (.iload_n 0, 1) := by decide +kernel
theorem dJ9_min_7cf53_1 : decode cJ9_min_7cf53 1 = .ok (.iload_n 1, 1) := by decide +kernel
theorem dJ9_min_7cf53_2 : decode cJ9_min_7cf53 2 = .ok (.if_icmp .gt 7, 3) := by decide +kernel
theorem dJ9_min_7cf53_5 : decode cJ9_min_7cf53 5 = .ok (.iload_n 0, 1) := by decide +kernel
theorem dJ9_min_7cf53_6 : decode cJ9_min_7cf53 6 = .ok (.goto 4, 3) := by decide +kernel
theorem dJ9_min_7cf53_9 : decode cJ9_min_7cf53 9 = .ok (.iload_n 1, 1) := by decide +kernel
theorem dJ9_min_7cf53_10 : decode cJ9_min_7cf53 10 = .ok (.ireturn, 1) := by decide +kernel
abbrev vwCl : List vw_C := [(RX0, TX0, 9), (RX1, TX1, 3), (RX2, TX2, 9), (RX3, TX3, 22)]
end
section
set_option maxRecDepth 20000 in
theorem ggX2_init_X1_init : GoodIn wsX2_init wsX1_init := goodIn_r _ [22, 23, 2, 3, 10, 24, 25, 26, 39, 40, 41] (by decide +kernel) (by decide +kernel)
set_option maxRecDepth 20000 in
theorem gX2_init_X1_init_n9 : GoodIn wsX2_init (wsX1_init) := ggX2_init_X1_init
set_option maxRecDepth 20000 in
theorem ggX2_init_X0_init : GoodIn wsX2_init wsX0_init := goodIn_r _ [28, 29, 2, 3, 30, 31, 32, 33, 34, 35, 36, 37, 38, 51, 52, 53, 54, 55, 56, 57, 58, 59] (by decide +kernel) (by decide +kernel)
set_option maxRecDepth 20000 in
theorem gX2_init_X0_init_n47 : GoodIn wsX2_init (wsX0_init) := ggX2_init_X0_init
theorem dX2_init_0 : decode cX2_init 0 = .ok (.aload_n 0, 1) := by decide +kernel
theorem dX2_init_1 : decode cX2_init 1 = .ok (.invokespecial 1, 3) := by decide +kernel
theorem dX2_init_4 : decode cX2_init 4 = .ok (.aload_n 0, 1) := by decide +kernel
theorem dX2_init_5 : decode cX2_init 5 = .ok (.new 7, 3) := by decide +kernel
theorem dX2_init_8 : decode cX2_init 8 = .ok (.dup, 1) := by decide +kernel
theorem dX2_init_9 : decode cX2_init 9 = .ok (.invokespecial 9, 3) := by decide +kernel
theorem dX2_init_12 : decode cX2_init 12 = .ok (.putfield 10, 3) := by decide +kernel
theorem dX2_init_15 : decode cX2_init 15 = .ok (.aload_n 0, 1) := by decide +kernel
theorem dX2_init_16 : decode cX2_init 16 = .ok (.bipush 8, 2) := by decide +kernel
theorem dX2_init_18 : decode cX2_init 18 = .ok (.anewarray 7, 3) := by decide +kernel
theorem dX2_init_21 : decode cX2_init 21 = .ok (.putfield 16, 3) := by decide +kernel
theorem dX2_init_24 : decode cX2_init 24 = .ok (.aload_n 0, 1) := by decide +kernel
theorem dX2_init_25 : decode cX2_init 25 = .ok (.iconst 0, 1) := by decide +kernel
theorem dX2_init_26 : decode cX2_init 26 = .ok (.putfield 20, 3) := by decide +kernel
theorem dX2_init_29 : decode cX2_init 29 = .ok (.aload_n 0, 1) := by decide +kernel
theorem dX2_init_30 : decode cX2_init 30 = .ok (.bipush 64, 2) := by decide +kernel
theorem dX2_init_32 : decode cX2_init 32 = .ok (.newarray .int, 2) := by decide +kernel
theorem dX2_init_34 : decode cX2_init 34 = .ok (.putfield 24, 3) := by decide +kernel
theorem dX2_init_37 : decode cX2_init 37 = .ok (.aload_n 0, 1) := by decide +kernel
theorem dX2_init_38 : decode cX2_init 38 = .ok (.bipush 64, 2) := by decide +kernel
theorem dX2_init_40 : decode cX2_init 40 = .ok (.newarray .int, 2) := by decide +kernel
theorem dX2_init_42 : decode cX2_init 42 = .ok (.putfield 28, 3) := by decide +kernel
theorem dX2_init_45 : decode cX2_init 45 = .ok (.aload_n 0, 1) := by decide +kernel
theorem dX2_init_46 : decode cX2_init 46 = .ok (.bipush 64, 2) := by decide +kernel
theorem dX2_init_48 : decode cX2_init 48 = .ok (.newarray .boolean, 2) := by decide +kernel
theorem dX2_init_50 : decode cX2_init 50 = .ok (.putfield 31, 3) := by decide +kernel
theorem dX2_init_53 : decode cX2_init 53 = .ok (.aload_n 0, 1) := by decide +kernel
theorem dX2_init_54 : decode cX2_init 54 = .ok (.iconst 5, 1) := by decide +kernel
theorem dX2_init_55 : decode cX2_init 55 = .ok (.anewarray 35, 3) := by decide +kernel
theorem dX2_init_58 : decode cX2_init 58 = .ok (.putfield 37, 3) := by decide +kernel
theorem dX2_init_61 : decode cX2_init 61 = .ok (.aload_n 0, 1) := by decide +kernel
theorem dX2_init_62 : decode cX2_init 62 = .ok (.iconst 0, 1) := by decide +kernel
theorem dX2_init_63 : decode cX2_init 63 = .ok (.putfield 41, 3) := by decide +kernel
theorem dX2_init_66 : decode cX2_init 66 = .ok (.aload_n 0, 1) := by decide +kernel
theorem dX2_init_67 : decode cX2_init 67 = .ok (.iconst 0, 1) := by decide +kernel
theorem dX2_init_68 : decode cX2_init 68 = .ok (.putfield 44, 3) := by decide +kernel
theorem dX2_init_71 : decode cX2_init 71 = .ok (.iconst 0, 1) := by decide +kernel
theorem dX2_init_72 : decode cX2_init 72 = .ok (.istore_n 1, 1) := by decide +kernel
theorem dX2_init_73 : decode cX2_init 73 = .ok (.iload_n 1, 1) := by decide +kernel
theorem dX2_init_74 : decode cX2_init 74 = .ok (.bipush 8, 2) := by decide +kernel
theorem dX2_init_76 : decode cX2_init 76 = .ok (.if_icmp .ge 22, 3) := by decide +kernel
theorem dX2_init_79 : decode cX2_init 79 = .ok (.aload_n 0, 1) := by decide +kernel
theorem dX2_init_80 : decode cX2_init 80 = .ok (.getfield 16, 3) := by decide +kernel
theorem dX2_init_83 : decode cX2_init 83 = .ok (.iload_n 1, 1) := by decide +kernel
theorem dX2_init_84 : decode cX2_init 84 = .ok (.new 7, 3) := by decide +kernel
theorem dX2_init_87 : decode cX2_init 87 = .ok (.dup, 1) := by decide +kernel
theorem dX2_init_88 : decode cX2_init 88 = .ok (.invokespecial 9, 3) := by decide +kernel
theorem dX2_init_91 : decode cX2_init 91 = .ok (.aastore, 1) := by decide +kernel
theorem dX2_init_92 : decode cX2_init 92 = .ok (.iinc 1 1, 3) := by decide +kernel
theorem dX2_init_95 : decode cX2_init 95 = .ok (.goto (-22), 3) := by decide +kernel
theorem dX2_init_98 : decode cX2_init 98 = .ok (.iconst 0, 1) := by decide +kernel
theorem dX2_init_99 : decode cX2_init 99 = .ok (.istore_n 1, 1) := by decide +kernel
theorem dX2_init_100 : decode cX2_init 100 = .ok (.iload_n 1, 1) := by decide +kernel
theorem dX2_init_101 : decode cX2_init 101 = .ok (.iconst 5, 1) := by decide +kernel
theorem dX2_init_102 : decode cX2_init 102 = .ok (.if_icmp .ge 22, 3) := by decide +kernel
theorem dX2_init_105 : decode cX2_init 105 = .ok (.aload_n 0, 1) := by decide +kernel
theorem dX2_init_106 : decode cX2_init 106 = .ok (.getfield 37, 3) := by decide +kernel
theorem dX2_init_109 : decode cX2_init 109 = .ok (.iload_n 1, 1) := by decide +kernel
theorem dX2_init_110 : decode cX2_init 110 = .ok (.new 35, 3) := by decide +kernel
theorem dX2_init_113 : decode cX2_init 113 = .ok (.dup, 1) := by decide +kernel
theorem dX2_init_114 : decode cX2_init 114 = .ok (.invokespecial 47, 3) := by decide +kernel
theorem dX2_init_117 : decode cX2_init 117 = .ok (.aastore, 1) := by decide +kernel
theorem dX2_init_118 : decode cX2_init 118 = .ok (.iinc 1 1, 3) := by decide +kernel
theorem dX2_init_121 : decode cX2_init 121 = .ok (.goto (-21), 3) := by decide +kernel
theorem dX2_init_124 : decode cX2_init 124 = .ok (.return_, 1) := by decide +kernel
set_option maxRecDepth 20000 in
theorem ggX2_draft_X2_demandPlace : GoodIn wsX2_draft wsX2_demandPlace := goodIn_ca (goodIn_r _ [7, 8, 9] (by decide +kernel) (by decide +kernel)) (goodIn_sub (fun _ h => List.mem_cons_of_mem _ (List.mem_append_right _ h)) (by decide +kernel))
set_option maxRecDepth 20000 in
theorem gX2_draft_X2_demandPlace : GoodIn wsX2_draft (va_wsS RX2 48 yX2_demandPlace wsX2_demandPlace) := goodIn_app (goodIn_of _ (by decide +kernel)) ggX2_draft_X2_demandPlace
set_option maxRecDepth 20000 in
theorem ggX2_draft_X1_isAt : GoodIn wsX2_draft wsX1_isAt := goodIn_r _ [13, 14, 15, 16, 29, 30, 31] (by decide +kernel) (by decide +kernel)
set_option maxRecDepth 20000 in
theorem gX2_draft_X1_isAt_n55 : GoodIn wsX2_draft (wsX1_isAt) := ggX2_draft_X1_isAt
set_option maxRecDepth 20000 in
theorem ggX2_draft_X1_add : GoodIn wsX2_draft wsX1_add := goodIn_r _ [19, 15, 14, 16, 29, 30, 31] (by decide +kernel) (by decide +kernel)
set_option maxRecDepth 20000 in
theorem gX2_draft_X1_add_n66 : GoodIn wsX2_draft (wsX1_add) := ggX2_draft_X1_add
theorem dX2_draft_0 : decode cX2_draft 0 = .ok (.iload_n 1, 1) := by decide +kernel
theorem dX2_draft_1 : decode cX2_draft 1 = .ok (.iload_n 2, 1) := by decide +kernel
theorem dX2_draft_2 : decode cX2_draft 2 = .ok (.invokestatic 48, 3) := by decide +kernel
theorem dX2_draft_5 : decode cX2_draft 5 = .ok (.aload_n 0, 1) := by decide +kernel
theorem dX2_draft_6 : decode cX2_draft 6 = .ok (.getfield 10, 3) := by decide +kernel
theorem dX2_draft_9 : decode cX2_draft 9 = .ok (.getfield 52, 3) := by decide +kernel
theorem dX2_draft_12 : decode cX2_draft 12 = .ok (.bipush 8, 2) := by decide +kernel
theorem dX2_draft_14 : decode cX2_draft 14 = .ok (.if_icmp .ge 24, 3) := by decide +kernel
theorem dX2_draft_17 : decode cX2_draft 17 = .ok (.aload_n 0, 1) := by decide +kernel
theorem dX2_draft_18 : decode cX2_draft 18 = .ok (.getfield 10, 3) := by decide +kernel
theorem dX2_draft_21 : decode cX2_draft 21 = .ok (.aload_n 0, 1) := by decide +kernel
theorem dX2_draft_22 : decode cX2_draft 22 = .ok (.getfield 10, 3) := by decide +kernel
theorem dX2_draft_25 : decode cX2_draft 25 = .ok (.getfield 52, 3) := by decide +kernel
theorem dX2_draft_28 : decode cX2_draft 28 = .ok (.iconst 1, 1) := by decide +kernel
theorem dX2_draft_29 : decode cX2_draft 29 = .ok (.isub, 1) := by decide +kernel
theorem dX2_draft_30 : decode cX2_draft 30 = .ok (.iload_n 1, 1) := by decide +kernel
theorem dX2_draft_31 : decode cX2_draft 31 = .ok (.iload_n 2, 1) := by decide +kernel
theorem dX2_draft_32 : decode cX2_draft 32 = .ok (.invokevirtual 55, 3) := by decide +kernel
theorem dX2_draft_35 : decode cX2_draft 35 = .ok (.ifCond .eq 13, 3) := by decide +kernel
theorem dX2_draft_38 : decode cX2_draft 38 = .ok (.new 59, 3) := by decide +kernel
theorem dX2_draft_41 : decode cX2_draft 41 = .ok (.dup, 1) := by decide +kernel
theorem dX2_draft_42 : decode cX2_draft 42 = .ok (.ldc 61, 2) := by decide +kernel
theorem dX2_draft_44 : decode cX2_draft 44 = .ok (.invokespecial 63, 3) := by decide +kernel
theorem dX2_draft_47 : decode cX2_draft 47 = .ok (.athrow, 1) := by decide +kernel
theorem dX2_draft_48 : decode cX2_draft 48 = .ok (.aload_n 0, 1) := by decide +kernel
theorem dX2_draft_49 : decode cX2_draft 49 = .ok (.getfield 10, 3) := by decide +kernel
theorem dX2_draft_52 : decode cX2_draft 52 = .ok (.iload_n 1, 1) := by decide +kernel
theorem dX2_draft_53 : decode cX2_draft 53 = .ok (.iload_n 2, 1) := by decide +kernel
theorem dX2_draft_54 : decode cX2_draft 54 = .ok (.invokevirtual 66, 3) := by decide +kernel
theorem dX2_draft_57 : decode cX2_draft 57 = .ok (.aload_n 0, 1) := by decide +kernel
theorem dX2_draft_58 : decode cX2_draft 58 = .ok (.getfield 10, 3) := by decide +kernel
theorem dX2_draft_61 : decode cX2_draft 61 = .ok (.getfield 52, 3) := by decide +kernel
theorem dX2_draft_64 : decode cX2_draft 64 = .ok (.ireturn, 1) := by decide +kernel
set_option maxRecDepth 20000 in
theorem ggX2_lay_X1_takeAllOf : GoodIn wsX2_lay wsX1_takeAllOf := goodIn_r _ [9, 10, 11, 12, 13, 14, 15, 16, 96, 97, 98] (by decide +kernel) (by decide +kernel)
set_option maxRecDepth 20000 in
theorem gX2_lay_X1_takeAllOf_n71 : GoodIn wsX2_lay (wsX1_takeAllOf) := ggX2_lay_X1_takeAllOf
set_option maxRecDepth 20000 in
theorem ggX2_lay_X2_recount : GoodIn wsX2_lay wsX2_recount := goodIn_r _ [21, 22, 5, 23, 24, 25, 20, 26, 27, 28, 29, 30, 31, 32, 33, 34, 35, 36, 37, 7, 38, 39, 16, 40, 41, 42, 43, 44, 45, 46, 10, 47, 48, 49, 50, 51, 15, 52, 53, 54, 55, 56, 57, 58, 59, 60, 61, 62, 63, 64, 65, 66, 67, 68, 69, 70, 71, 72, 73, 74, 75, 76, 77, 78, 79, 80, 81, 82, 83, 84, 85, 86, 87, 88, 89, 90, 91, 92, 93, 94, 95, 96, 97, 98] (by decide +kernel) (by decide +kernel)
set_option maxRecDepth 20000 in
theorem gX2_lay_X2_recount : GoodIn wsX2_lay (wsV RX2 75 RX2 yX2_recount wsX2_recount) := goodIn_app (goodIn_of _ (by decide +kernel)) ggX2_lay_X2_recount
theorem dX2_lay_0 : decode cX2_lay 0 = .ok (.aload_n 0, 1) := by decide +kernel
theorem dX2_lay_1 : decode cX2_lay 1 = .ok (.getfield 10, 3) := by decide +kernel
theorem dX2_lay_4 : decode cX2_lay 4 = .ok (.getfield 52, 3) := by decide +kernel
theorem dX2_lay_7 : decode cX2_lay 7 = .ok (.iconst 2, 1) := by decide +kernel
theorem dX2_lay_8 : decode cX2_lay 8 = .ok (.if_icmp .lt 12, 3) := by decide +kernel
theorem dX2_lay_11 : decode cX2_lay 11 = .ok (.aload_n 0, 1) := by decide +kernel
theorem dX2_lay_12 : decode cX2_lay 12 = .ok (.getfield 20, 3) := by decide +kernel
theorem dX2_lay_15 : decode cX2_lay 15 = .ok (.bipush 8, 2) := by decide +kernel
theorem dX2_lay_17 : decode cX2_lay 17 = .ok (.if_icmp .lt 13, 3) := by decide +kernel
theorem dX2_lay_20 : decode cX2_lay 20 = .ok (.new 59, 3) := by decide +kernel
theorem dX2_lay_23 : decode cX2_lay 23 = .ok (.dup, 1) := by decide +kernel
theorem dX2_lay_24 : decode cX2_lay 24 = .ok (.ldc 69, 2) := by decide +kernel
theorem dX2_lay_26 : decode cX2_lay 26 = .ok (.invokespecial 63, 3) := by decide +kernel
theorem dX2_lay_29 : decode cX2_lay 29 = .ok (.athrow, 1) := by decide +kernel
theorem dX2_lay_30 : decode cX2_lay 30 = .ok (.aload_n 0, 1) := by decide +kernel
theorem dX2_lay_31 : decode cX2_lay 31 = .ok (.getfield 20, 3) := by decide +kernel
theorem dX2_lay_34 : decode cX2_lay 34 = .ok (.istore_n 1, 1) := by decide +kernel
theorem dX2_lay_35 : decode cX2_lay 35 = .ok (.aload_n 0, 1) := by decide +kernel
theorem dX2_lay_36 : decode cX2_lay 36 = .ok (.getfield 16, 3) := by decide +kernel
theorem dX2_lay_39 : decode cX2_lay 39 = .ok (.iload_n 1, 1) := by decide +kernel
theorem dX2_lay_40 : decode cX2_lay 40 = .ok (.aaload, 1) := by decide +kernel
theorem dX2_lay_41 : decode cX2_lay 41 = .ok (.aload_n 0, 1) := by decide +kernel
theorem dX2_lay_42 : decode cX2_lay 42 = .ok (.getfield 10, 3) := by decide +kernel
theorem dX2_lay_45 : decode cX2_lay 45 = .ok (.invokevirtual 71, 3) := by decide +kernel
theorem dX2_lay_48 : decode cX2_lay 48 = .ok (.aload_n 0, 1) := by decide +kernel
theorem dX2_lay_49 : decode cX2_lay 49 = .ok (.getfield 10, 3) := by decide +kernel
theorem dX2_lay_52 : decode cX2_lay 52 = .ok (.iconst 0, 1) := by decide +kernel
theorem dX2_lay_53 : decode cX2_lay 53 = .ok (.putfield 52, 3) := by decide +kernel
theorem dX2_lay_56 : decode cX2_lay 56 = .ok (.aload_n 0, 1) := by decide +kernel
theorem dX2_lay_57 : decode cX2_lay 57 = .ok (.dup, 1) := by decide +kernel
theorem dX2_lay_58 : decode cX2_lay 58 = .ok (.getfield 20, 3) := by decide +kernel
theorem dX2_lay_61 : decode cX2_lay 61 = .ok (.iconst 1, 1) := by decide +kernel
theorem dX2_lay_62 : decode cX2_lay 62 = .ok (.iadd, 1) := by decide +kernel
theorem dX2_lay_63 : decode cX2_lay 63 = .ok (.putfield 20, 3) := by decide +kernel
theorem dX2_lay_66 : decode cX2_lay 66 = .ok (.iconst 0, 1) := by decide +kernel
theorem dX2_lay_67 : decode cX2_lay 67 = .ok (.istore_n 2, 1) := by decide +kernel
theorem dX2_lay_68 : decode cX2_lay 68 = .ok (.iload_n 2, 1) := by decide +kernel
theorem dX2_lay_69 : decode cX2_lay 69 = .ok (.iload_n 1, 1) := by decide +kernel
theorem dX2_lay_70 : decode cX2_lay 70 = .ok (.if_icmp .ge 15, 3) := by decide +kernel
theorem dX2_lay_73 : decode cX2_lay 73 = .ok (.aload_n 0, 1) := by decide +kernel
theorem dX2_lay_74 : decode cX2_lay 74 = .ok (.iload_n 1, 1) := by decide +kernel
theorem dX2_lay_75 : decode cX2_lay 75 = .ok (.iload_n 2, 1) := by decide +kernel
theorem dX2_lay_76 : decode cX2_lay 76 = .ok (.invokevirtual 75, 3) := by decide +kernel
theorem dX2_lay_79 : decode cX2_lay 79 = .ok (.iinc 2 1, 3) := by decide +kernel
theorem dX2_lay_82 : decode cX2_lay 82 = .ok (.goto (-14), 3) := by decide +kernel
theorem dX2_lay_85 : decode cX2_lay 85 = .ok (.iload_n 1, 1) := by decide +kernel
theorem dX2_lay_86 : decode cX2_lay 86 = .ok (.ireturn, 1) := by decide +kernel
set_option maxRecDepth 20000 in
theorem ggX2_move_X2_demandPoint : GoodIn wsX2_move wsX2_demandPoint := goodIn_ca (goodIn_r _ [9, 10, 11, 3, 12, 13, 14, 8, 15, 4, 106, 107, 108, 109, 110, 111, 112, 113, 114, 115, 116, 117] (by decide +kernel) (by decide +kernel)) (goodIn_sub (fun _ h => List.mem_cons_of_mem _ (List.mem_append_left _ (List.mem_append_right _ h))) (by decide +kernel))
set_option maxRecDepth 20000 in
theorem gX2_move_X2_demandPoint : GoodIn wsX2_move (wsV RX2 78 RX2 yX2_demandPoint wsX2_demandPoint) := goodIn_app (goodIn_of _ (by decide +kernel)) ggX2_move_X2_demandPoint
set_option maxRecDepth 20000 in
theorem ggX2_move_X2_demandPlace : GoodIn wsX2_move wsX2_demandPlace := goodIn_ca (goodIn_r _ [18, 19, 20] (by decide +kernel) (by decide +kernel)) (goodIn_sub (fun _ h => List.mem_cons_of_mem _ (List.mem_append_right _ h)) (by decide +kernel))
set_option maxRecDepth 20000 in
theorem gX2_move_X2_demandPlace : GoodIn wsX2_move (va_wsS RX2 48 yX2_demandPlace wsX2_demandPlace) := goodIn_app (goodIn_of _ (by decide +kernel)) ggX2_move_X2_demandPlace
set_option maxRecDepth 20000 in
theorem ggX2_move_X1_isAt : GoodIn wsX2_move wsX1_isAt := goodIn_r _ [24, 25, 26, 27, 115, 116, 117] (by decide +kernel) (by decide +kernel)
set_option maxRecDepth 20000 in
theorem gX2_move_X1_isAt_n55 : GoodIn wsX2_move (wsX1_isAt) := ggX2_move_X1_isAt
set_option maxRecDepth 20000 in
theorem ggX2_move_X2_recount : GoodIn wsX2_move wsX2_recount := goodIn_r _ [31, 32, 3, 33, 34, 35, 8, 36, 37, 38, 39, 40, 41, 42, 43, 44, 45, 46, 47, 22, 48, 49, 25, 50, 51, 52, 53, 54, 55, 56, 26, 57, 58, 59, 60, 61, 27, 62, 63, 64, 65, 66, 67, 68, 69, 70, 71, 72, 73, 74, 75, 76, 77, 78, 79, 80, 81, 82, 83, 84, 85, 86, 87, 88, 89, 90, 91, 92, 93, 94, 95, 96, 106, 107, 108, 109, 110, 111, 112, 113, 114, 115, 116, 117] (by decide +kernel) (by decide +kernel)
set_option maxRecDepth 20000 in
theorem gX2_move_X2_recount : GoodIn wsX2_move (wsV RX2 75 RX2 yX2_recount wsX2_recount) := goodIn_app (goodIn_of _ (by decide +kernel)) ggX2_move_X2_recount
set_option maxRecDepth 20000 in
theorem ggX2_move_X2_dropIfNotWell : GoodIn wsX2_move wsX2_dropIfNotWell := goodIn_r _ [100, 101, 34, 35, 8, 36, 37, 38, 39, 40, 41, 42, 43, 102, 103, 104, 105, 32, 33, 106, 107, 108, 109, 110, 111, 112, 113, 114] (by decide +kernel) (by decide +kernel)
set_option maxRecDepth 20000 in
theorem gX2_move_X2_dropIfNotWell : GoodIn wsX2_move (wsV RX2 89 RX2 yX2_dropIfNotWell wsX2_dropIfNotWell) := goodIn_app (goodIn_of _ (by decide +kernel)) ggX2_move_X2_dropIfNotWell
theorem dX2_move_0 : decode cX2_move 0 = .ok (.aload_n 0, 1) := by decide +kernel
theorem dX2_move_1 : decode cX2_move 1 = .ok (.iload_n 1, 1) := by decide +kernel
theorem dX2_move_2 : decode cX2_move 2 = .ok (.iload_n 2, 1) := by decide +kernel
theorem dX2_move_3 : decode cX2_move 3 = .ok (.invokevirtual 78, 3) := by decide +kernel
theorem dX2_move_6 : decode cX2_move 6 = .ok (.iload_n 3, 1) := by decide +kernel
theorem dX2_move_7 : decode cX2_move 7 = .ok (.iload 4, 2) := by decide +kernel
theorem dX2_move_9 : decode cX2_move 9 = .ok (.invokestatic 48, 3) := by decide +kernel
theorem dX2_move_12 : decode cX2_move 12 = .ok (.aload_n 0, 1) := by decide +kernel
theorem dX2_move_13 : decode cX2_move 13 = .ok (.getfield 16, 3) := by decide +kernel
theorem dX2_move_16 : decode cX2_move 16 = .ok (.iload_n 1, 1) := by decide +kernel
theorem dX2_move_17 : decode cX2_move 17 = .ok (.aaload, 1) := by decide +kernel
theorem dX2_move_18 : decode cX2_move 18 = .ok (.astore 5, 2) := by decide +kernel
theorem dX2_move_20 : decode cX2_move 20 = .ok (.aload 5, 2) := by decide +kernel
theorem dX2_move_22 : decode cX2_move 22 = .ok (.iload_n 2, 1) := by decide +kernel
theorem dX2_move_23 : decode cX2_move 23 = .ok (.iconst 1, 1) := by decide +kernel
theorem dX2_move_24 : decode cX2_move 24 = .ok (.isub, 1) := by decide +kernel
theorem dX2_move_25 : decode cX2_move 25 = .ok (.iload_n 3, 1) := by decide +kernel
theorem dX2_move_26 : decode cX2_move 26 = .ok (.iload 4, 2) := by decide +kernel
theorem dX2_move_28 : decode cX2_move 28 = .ok (.invokevirtual 55, 3) := by decide +kernel
theorem dX2_move_31 : decode cX2_move 31 = .ok (.ifCond .ne 17, 3) := by decide +kernel
theorem dX2_move_34 : decode cX2_move 34 = .ok (.aload 5, 2) := by decide +kernel
theorem dX2_move_36 : decode cX2_move 36 = .ok (.iload_n 2, 1) := by decide +kernel
theorem dX2_move_37 : decode cX2_move 37 = .ok (.iconst 1, 1) := by decide +kernel
theorem dX2_move_38 : decode cX2_move 38 = .ok (.iadd, 1) := by decide +kernel
theorem dX2_move_39 : decode cX2_move 39 = .ok (.iload_n 3, 1) := by decide +kernel
theorem dX2_move_40 : decode cX2_move 40 = .ok (.iload 4, 2) := by decide +kernel
theorem dX2_move_42 : decode cX2_move 42 = .ok (.invokevirtual 55, 3) := by decide +kernel
theorem dX2_move_45 : decode cX2_move 45 = .ok (.ifCond .eq 13, 3) := by decide +kernel
theorem dX2_move_48 : decode cX2_move 48 = .ok (.new 59, 3) := by decide +kernel
theorem dX2_move_51 : decode cX2_move 51 = .ok (.dup, 1) := by decide +kernel
theorem dX2_move_52 : decode cX2_move 52 = .ok (.ldc 81, 2) := by decide +kernel
theorem dX2_move_54 : decode cX2_move 54 = .ok (.invokespecial 63, 3) := by decide +kernel
theorem dX2_move_57 : decode cX2_move 57 = .ok (.athrow, 1) := by decide +kernel
theorem dX2_move_58 : decode cX2_move 58 = .ok (.aload 5, 2) := by decide +kernel
theorem dX2_move_60 : decode cX2_move 60 = .ok (.getfield 83, 3) := by decide +kernel
theorem dX2_move_63 : decode cX2_move 63 = .ok (.iload_n 2, 1) := by decide +kernel
theorem dX2_move_64 : decode cX2_move 64 = .ok (.iload_n 3, 1) := by decide +kernel
theorem dX2_move_65 : decode cX2_move 65 = .ok (.iastore, 1) := by decide +kernel
theorem dX2_move_66 : decode cX2_move 66 = .ok (.aload 5, 2) := by decide +kernel
theorem dX2_move_68 : decode cX2_move 68 = .ok (.getfield 86, 3) := by decide +kernel
theorem dX2_move_71 : decode cX2_move 71 = .ok (.iload_n 2, 1) := by decide +kernel
theorem dX2_move_72 : decode cX2_move 72 = .ok (.iload 4, 2) := by decide +kernel
theorem dX2_move_74 : decode cX2_move 74 = .ok (.iastore, 1) := by decide +kernel
theorem dX2_move_75 : decode cX2_move 75 = .ok (.iconst 0, 1) := by decide +kernel
theorem dX2_move_76 : decode cX2_move 76 = .ok (.istore 6, 2) := by decide +kernel
theorem dX2_move_78 : decode cX2_move 78 = .ok (.iconst 0, 1) := by decide +kernel
theorem dX2_move_79 : decode cX2_move 79 = .ok (.istore 7, 2) := by decide +kernel
theorem dX2_move_81 : decode cX2_move 81 = .ok (.iload 7, 2) := by decide +kernel
theorem dX2_move_83 : decode cX2_move 83 = .ok (.aload_n 0, 1) := by decide +kernel
theorem dX2_move_84 : decode cX2_move 84 = .ok (.getfield 20, 3) := by decide +kernel
theorem dX2_move_87 : decode cX2_move 87 = .ok (.if_icmp .ge 34, 3) := by decide +kernel
theorem dX2_move_90 : decode cX2_move 90 = .ok (.iload 7, 2) := by decide +kernel
theorem dX2_move_92 : decode cX2_move 92 = .ok (.iload_n 1, 1) := by decide +kernel
theorem dX2_move_93 : decode cX2_move 93 = .ok (.if_icmp .eq 22, 3) := by decide +kernel
theorem dX2_move_96 : decode cX2_move 96 = .ok (.aload_n 0, 1) := by decide +kernel
theorem dX2_move_97 : decode cX2_move 97 = .ok (.iload_n 1, 1) := by decide +kernel
theorem dX2_move_98 : decode cX2_move 98 = .ok (.iload 7, 2) := by decide +kernel
theorem dX2_move_100 : decode cX2_move 100 = .ok (.invokevirtual 75, 3) := by decide +kernel
theorem dX2_move_103 : decode cX2_move 103 = .ok (.iload 6, 2) := by decide +kernel
theorem dX2_move_105 : decode cX2_move 105 = .ok (.aload_n 0, 1) := by decide +kernel
theorem dX2_move_106 : decode cX2_move 106 = .ok (.iload_n 1, 1) := by decide +kernel
theorem dX2_move_107 : decode cX2_move 107 = .ok (.iload 7, 2) := by decide +kernel
theorem dX2_move_109 : decode cX2_move 109 = .ok (.invokevirtual 89, 3) := by decide +kernel
theorem dX2_move_112 : decode cX2_move 112 = .ok (.iadd, 1) := by decide +kernel
theorem dX2_move_113 : decode cX2_move 113 = .ok (.istore 6, 2) := by decide +kernel
theorem dX2_move_115 : decode cX2_move 115 = .ok (.iinc 7 1, 3) := by decide +kernel
theorem dX2_move_118 : decode cX2_move 118 = .ok (.goto (-37), 3) := by decide +kernel
theorem dX2_move_121 : decode cX2_move 121 = .ok (.iload 6, 2) := by decide +kernel
theorem dX2_move_123 : decode cX2_move 123 = .ok (.ireturn, 1) := by decide +kernel
theorem dX2_cables_0 : decode cX2_cables 0 = .ok (.aload_n 0, 1) := by decide +kernel
theorem dX2_cables_1 : decode cX2_cables 1 = .ok (.getfield 20, 3) := by decide +kernel
theorem dX2_cables_4 : decode cX2_cables 4 = .ok (.ireturn, 1) := by decide +kernel
set_option maxRecDepth 20000 in
theorem ggX2_point_X2_demandPoint : GoodIn wsX2_point wsX2_demandPoint := goodIn_ca (goodIn_r _ [6, 7, 8, 1, 9, 10, 11, 5, 12, 13, 14, 15, 16, 17, 18, 19, 20, 21, 22, 23, 24, 25] (by decide +kernel) (by decide +kernel)) (goodIn_sub (fun _ h => List.mem_cons_of_mem _ (List.mem_append_right _ h)) (by decide +kernel))
set_option maxRecDepth 20000 in
theorem gX2_point_X2_demandPoint : GoodIn wsX2_point (wsV RX2 78 RX2 yX2_demandPoint wsX2_demandPoint) := goodIn_app (goodIn_of _ (by decide +kernel)) ggX2_point_X2_demandPoint
theorem dX2_point_0 : decode cX2_point 0 = .ok (.aload_n 0, 1) := by decide +kernel
theorem dX2_point_1 : decode cX2_point 1 = .ok (.iload_n 1, 1) := by decide +kernel
theorem dX2_point_2 : decode cX2_point 2 = .ok (.iload_n 2, 1) := by decide +kernel
theorem dX2_point_3 : decode cX2_point 3 = .ok (.invokevirtual 78, 3) := by decide +kernel
theorem dX2_point_6 : decode cX2_point 6 = .ok (.bipush 100, 2) := by decide +kernel
theorem dX2_point_8 : decode cX2_point 8 = .ok (.aload_n 0, 1) := by decide +kernel
theorem dX2_point_9 : decode cX2_point 9 = .ok (.getfield 16, 3) := by decide +kernel
theorem dX2_point_12 : decode cX2_point 12 = .ok (.iload_n 1, 1) := by decide +kernel
theorem dX2_point_13 : decode cX2_point 13 = .ok (.aaload, 1) := by decide +kernel
theorem dX2_point_14 : decode cX2_point 14 = .ok (.getfield 83, 3) := by decide +kernel
theorem dX2_point_17 : decode cX2_point 17 = .ok (.iload_n 2, 1) := by decide +kernel
theorem dX2_point_18 : decode cX2_point 18 = .ok (.iaload, 1) := by decide +kernel
theorem dX2_point_19 : decode cX2_point 19 = .ok (.imul, 1) := by decide +kernel
theorem dX2_point_20 : decode cX2_point 20 = .ok (.aload_n 0, 1) := by decide +kernel
theorem dX2_point_21 : decode cX2_point 21 = .ok (.getfield 16, 3) := by decide +kernel
theorem dX2_point_24 : decode cX2_point 24 = .ok (.iload_n 1, 1) := by decide +kernel
theorem dX2_point_25 : decode cX2_point 25 = .ok (.aaload, 1) := by decide +kernel
theorem dX2_point_26 : decode cX2_point 26 = .ok (.getfield 86, 3) := by decide +kernel
theorem dX2_point_29 : decode cX2_point 29 = .ok (.iload_n 2, 1) := by decide +kernel
theorem dX2_point_30 : decode cX2_point 30 = .ok (.iaload, 1) := by decide +kernel
theorem dX2_point_31 : decode cX2_point 31 = .ok (.iadd, 1) := by decide +kernel
theorem dX2_point_32 : decode cX2_point 32 = .ok (.ireturn, 1) := by decide +kernel
set_option maxRecDepth 20000 in
theorem ggX2_crossings_X2_demandCables : GoodIn wsX2_crossings wsX2_demandCables := goodIn_ca (goodIn_r _ [6, 7, 8, 9, 5, 10, 11, 12, 13, 24, 25, 26, 27, 28, 29, 30, 31, 32] (by decide +kernel) (by decide +kernel)) (goodIn_sub (fun _ h => List.mem_cons_of_mem _ (List.mem_append_right _ h)) (by decide +kernel))
set_option maxRecDepth 20000 in
theorem gX2_crossings_X2_demandCables : GoodIn wsX2_crossings (wsV RX2 93 RX2 yX2_demandCables wsX2_demandCables) := goodIn_app (goodIn_of _ (by decide +kernel)) ggX2_crossings_X2_demandCables
set_option maxRecDepth 20000 in
theorem ggX2_crossings_X2_pairOf : GoodIn wsX2_crossings wsX2_pairOf := goodIn_r _ [16, 17, 18, 19, 20, 21, 22, 23] (by decide +kernel) (by decide +kernel)
set_option maxRecDepth 20000 in
theorem gX2_crossings_X2_pairOf : GoodIn wsX2_crossings (va_wsS RX2 96 yX2_pairOf wsX2_pairOf) := goodIn_app (goodIn_of _ (by decide +kernel)) ggX2_crossings_X2_pairOf
theorem dX2_crossings_0 : decode cX2_crossings 0 = .ok (.aload_n 0, 1) := by decide +kernel
theorem dX2_crossings_1 : decode cX2_crossings 1 = .ok (.iload_n 1, 1) := by decide +kernel
theorem dX2_crossings_2 : decode cX2_crossings 2 = .ok (.iload_n 2, 1) := by decide +kernel
theorem dX2_crossings_3 : decode cX2_crossings 3 = .ok (.invokevirtual 93, 3) := by decide +kernel
theorem dX2_crossings_6 : decode cX2_crossings 6 = .ok (.aload_n 0, 1) := by decide +kernel
theorem dX2_crossings_7 : decode cX2_crossings 7 = .ok (.getfield 24, 3) := by decide +kernel
theorem dX2_crossings_10 : decode cX2_crossings 10 = .ok (.iload_n 1, 1) := by decide +kernel
theorem dX2_crossings_11 : decode cX2_crossings 11 = .ok (.iload_n 2, 1) := by decide +kernel
theorem dX2_crossings_12 : decode cX2_crossings 12 = .ok (.invokestatic 96, 3) := by decide +kernel
theorem dX2_crossings_15 : decode cX2_crossings 15 = .ok (.iaload, 1) := by decide +kernel
theorem dX2_crossings_16 : decode cX2_crossings 16 = .ok (.ireturn, 1) := by decide +kernel
set_option maxRecDepth 20000 in
theorem ggX2_crossingsAnew_X2_demandCables : GoodIn wsX2_crossingsAnew wsX2_demandCables := goodIn_ca (goodIn_r _ [6, 7, 8, 9, 5, 10, 11, 12, 13, 76, 77, 78, 79, 80, 81, 82, 83, 84] (by decide +kernel) (by decide +kernel)) (goodIn_sub (fun _ h => List.mem_cons_of_mem _ (List.mem_append_right _ h)) (by decide +kernel))
set_option maxRecDepth 20000 in
theorem gX2_crossingsAnew_X2_demandCables : GoodIn wsX2_crossingsAnew (wsV RX2 93 RX2 yX2_demandCables wsX2_demandCables) := goodIn_app (goodIn_of _ (by decide +kernel)) ggX2_crossingsAnew_X2_demandCables
set_option maxRecDepth 20000 in
theorem ggX2_crossingsAnew_X2_countCrossings : GoodIn wsX2_crossingsAnew wsX2_countCrossings := goodIn_r _ [16, 17, 18, 19, 20, 21, 22, 23, 24, 25, 26, 27, 28, 29, 30, 31, 32, 33, 34, 35, 36, 37, 38, 39, 40, 41, 42, 43, 44, 45, 46, 47, 48, 49, 50, 51, 52, 53, 54, 55, 56, 57, 58, 59, 60, 61, 62, 63, 64, 65, 66, 67, 68, 69, 70, 71, 72, 73, 74, 75, 85, 86, 87] (by decide +kernel) (by decide +kernel)
set_option maxRecDepth 20000 in
theorem gX2_crossingsAnew_X2_countCrossings : GoodIn wsX2_crossingsAnew (va_wsS RX2 99 yX2_countCrossings wsX2_countCrossings) := goodIn_app (goodIn_of _ (by decide +kernel)) ggX2_crossingsAnew_X2_countCrossings
theorem dX2_crossingsAnew_0 : decode cX2_crossingsAnew 0 = .ok (.aload_n 0, 1) := by decide +kernel
theorem dX2_crossingsAnew_1 : decode cX2_crossingsAnew 1 = .ok (.iload_n 1, 1) := by decide +kernel
theorem dX2_crossingsAnew_2 : decode cX2_crossingsAnew 2 = .ok (.iload_n 2, 1) := by decide +kernel
theorem dX2_crossingsAnew_3 : decode cX2_crossingsAnew 3 = .ok (.invokevirtual 93, 3) := by decide +kernel
theorem dX2_crossingsAnew_6 : decode cX2_crossingsAnew 6 = .ok (.iload_n 1, 1) := by decide +kernel
theorem dX2_crossingsAnew_7 : decode cX2_crossingsAnew 7 = .ok (.iload_n 2, 1) := by decide +kernel
theorem dX2_crossingsAnew_8 : decode cX2_crossingsAnew 8 = .ok (.if_icmp .ne 7, 3) := by decide +kernel
theorem dX2_crossingsAnew_11 : decode cX2_crossingsAnew 11 = .ok (.iconst 0, 1) := by decide +kernel
theorem dX2_crossingsAnew_12 : decode cX2_crossingsAnew 12 = .ok (.goto 19, 3) := by decide +kernel
theorem dX2_crossingsAnew_15 : decode cX2_crossingsAnew 15 = .ok (.aload_n 0, 1) := by decide +kernel
theorem dX2_crossingsAnew_16 : decode cX2_crossingsAnew 16 = .ok (.getfield 16, 3) := by decide +kernel
theorem dX2_crossingsAnew_19 : decode cX2_crossingsAnew 19 = .ok (.iload_n 1, 1) := by decide +kernel
theorem dX2_crossingsAnew_20 : decode cX2_crossingsAnew 20 = .ok (.aaload, 1) := by decide +kernel
theorem dX2_crossingsAnew_21 : decode cX2_crossingsAnew 21 = .ok (.aload_n 0, 1) := by decide +kernel
theorem dX2_crossingsAnew_22 : decode cX2_crossingsAnew 22 = .ok (.getfield 16, 3) := by decide +kernel
theorem dX2_crossingsAnew_25 : decode cX2_crossingsAnew 25 = .ok (.iload_n 2, 1) := by decide +kernel
theorem dX2_crossingsAnew_26 : decode cX2_crossingsAnew 26 = .ok (.aaload, 1) := by decide +kernel
theorem dX2_crossingsAnew_27 : decode cX2_crossingsAnew 27 = .ok (.iconst 0, 1) := by decide +kernel
theorem dX2_crossingsAnew_28 : decode cX2_crossingsAnew 28 = .ok (.invokestatic 99, 3) := by decide +kernel
theorem dX2_crossingsAnew_31 : decode cX2_crossingsAnew 31 = .ok (.ireturn, 1) := by decide +kernel
set_option maxRecDepth 20000 in
theorem ggX2_isWell_X2_demandCables : GoodIn wsX2_isWell wsX2_demandCables := goodIn_ca (goodIn_r _ [5, 6, 7, 8, 4, 9, 10, 11, 12, 29, 30, 31, 32, 33, 34, 35, 36, 37] (by decide +kernel) (by decide +kernel)) (goodIn_sub (fun _ h => List.mem_cons_of_mem _ (List.mem_append_right _ h)) (by decide +kernel))
set_option maxRecDepth 20000 in
theorem gX2_isWell_X2_demandCables : GoodIn wsX2_isWell (wsV RX2 93 RX2 yX2_demandCables wsX2_demandCables) := goodIn_app (goodIn_of _ (by decide +kernel)) ggX2_isWell_X2_demandCables
set_option maxRecDepth 20000 in
theorem ggX2_isWell_X2_crossWell : GoodIn wsX2_isWell wsX2_crossWell := goodIn_r _ [16, 17, 18, 19, 20, 4, 21, 22, 23, 24, 25, 26, 27, 28, 29, 30, 31, 32, 33, 34, 35, 36, 37] (by decide +kernel) (by decide +kernel)
set_option maxRecDepth 20000 in
theorem gX2_isWell_X2_crossWell : GoodIn wsX2_isWell (wsV RX2 103 RX2 yX2_crossWell wsX2_crossWell) := goodIn_app (goodIn_of _ (by decide +kernel)) ggX2_isWell_X2_crossWell
theorem dX2_isWell_0 : decode cX2_isWell 0 = .ok (.aload_n 0, 1) := by decide +kernel
theorem dX2_isWell_1 : decode cX2_isWell 1 = .ok (.iload_n 1, 1) := by decide +kernel
theorem dX2_isWell_2 : decode cX2_isWell 2 = .ok (.iload_n 2, 1) := by decide +kernel
theorem dX2_isWell_3 : decode cX2_isWell 3 = .ok (.invokevirtual 93, 3) := by decide +kernel
theorem dX2_isWell_6 : decode cX2_isWell 6 = .ok (.aload_n 0, 1) := by decide +kernel
theorem dX2_isWell_7 : decode cX2_isWell 7 = .ok (.iload_n 1, 1) := by decide +kernel
theorem dX2_isWell_8 : decode cX2_isWell 8 = .ok (.iload_n 2, 1) := by decide +kernel
theorem dX2_isWell_9 : decode cX2_isWell 9 = .ok (.invokevirtual 103, 3) := by decide +kernel
theorem dX2_isWell_12 : decode cX2_isWell 12 = .ok (.ireturn, 1) := by decide +kernel
set_option maxRecDepth 20000 in
theorem ggX2_agree_X2_demandCables : GoodIn wsX2_agree wsX2_demandCables := goodIn_ca (goodIn_r _ [8, 9, 10, 11, 7, 12, 13, 14, 15, 36, 37, 38, 39, 40, 41, 42, 43, 44] (by decide +kernel) (by decide +kernel)) (goodIn_sub (fun _ h => List.mem_cons_of_mem _ (List.mem_append_right _ h)) (by decide +kernel))
set_option maxRecDepth 20000 in
theorem gX2_agree_X2_demandCables : GoodIn wsX2_agree (wsV RX2 93 RX2 yX2_demandCables wsX2_demandCables) := goodIn_app (goodIn_of _ (by decide +kernel)) ggX2_agree_X2_demandCables
set_option maxRecDepth 20000 in
theorem ggX2_agree_X2_pairOf : GoodIn wsX2_agree wsX2_pairOf := goodIn_r _ [18, 19, 20, 21, 22, 23, 24, 25] (by decide +kernel) (by decide +kernel)
set_option maxRecDepth 20000 in
theorem gX2_agree_X2_pairOf : GoodIn wsX2_agree (va_wsS RX2 96 yX2_pairOf wsX2_pairOf) := goodIn_app (goodIn_of _ (by decide +kernel)) ggX2_agree_X2_pairOf
set_option maxRecDepth 20000 in
theorem ggX2_agree_X2_crossWell : GoodIn wsX2_agree wsX2_crossWell := goodIn_r _ [29, 30, 31, 16, 17, 7, 18, 19, 20, 21, 22, 23, 24, 25, 36, 37, 38, 39, 40, 41, 42, 43, 44] (by decide +kernel) (by decide +kernel)
set_option maxRecDepth 20000 in
theorem gX2_agree_X2_crossWell : GoodIn wsX2_agree (wsV RX2 103 RX2 yX2_crossWell wsX2_crossWell) := goodIn_app (goodIn_of _ (by decide +kernel)) ggX2_agree_X2_crossWell
set_option maxRecDepth 20000 in
theorem ggX2_agree_X2_countBarePairs : GoodIn wsX2_agree wsX2_countBarePairs := goodIn_r _ [35, 15, 30, 3, 16, 17, 7, 18, 19, 20, 21, 22, 23, 24, 25, 36, 37, 38, 39, 40, 41, 42, 43, 44] (by decide +kernel) (by decide +kernel)
set_option maxRecDepth 20000 in
theorem gX2_agree_X2_countBarePairs : GoodIn wsX2_agree (wsV RX2 109 RX2 yX2_countBarePairs wsX2_countBarePairs) := goodIn_app (goodIn_of _ (by decide +kernel)) ggX2_agree_X2_countBarePairs
theorem dX2_agree_0 : decode cX2_agree 0 = .ok (.aload_n 0, 1) := by decide +kernel
theorem dX2_agree_1 : decode cX2_agree 1 = .ok (.iload_n 1, 1) := by decide +kernel
theorem dX2_agree_2 : decode cX2_agree 2 = .ok (.iload_n 2, 1) := by decide +kernel
theorem dX2_agree_3 : decode cX2_agree 3 = .ok (.invokevirtual 93, 3) := by decide +kernel
theorem dX2_agree_6 : decode cX2_agree 6 = .ok (.iload_n 1, 1) := by decide +kernel
theorem dX2_agree_7 : decode cX2_agree 7 = .ok (.iload_n 2, 1) := by decide +kernel
theorem dX2_agree_8 : decode cX2_agree 8 = .ok (.invokestatic 96, 3) := by decide +kernel
theorem dX2_agree_11 : decode cX2_agree 11 = .ok (.istore_n 3, 1) := by decide +kernel
theorem dX2_agree_12 : decode cX2_agree 12 = .ok (.aload_n 0, 1) := by decide +kernel
theorem dX2_agree_13 : decode cX2_agree 13 = .ok (.iload_n 1, 1) := by decide +kernel
theorem dX2_agree_14 : decode cX2_agree 14 = .ok (.iload_n 2, 1) := by decide +kernel
theorem dX2_agree_15 : decode cX2_agree 15 = .ok (.invokevirtual 103, 3) := by decide +kernel
theorem dX2_agree_18 : decode cX2_agree 18 = .ok (.ifCond .eq 12, 3) := by decide +kernel
theorem dX2_agree_21 : decode cX2_agree 21 = .ok (.aload_n 0, 1) := by decide +kernel
theorem dX2_agree_22 : decode cX2_agree 22 = .ok (.getfield 31, 3) := by decide +kernel
theorem dX2_agree_25 : decode cX2_agree 25 = .ok (.iload_n 3, 1) := by decide +kernel
theorem dX2_agree_26 : decode cX2_agree 26 = .ok (.baload, 1) := by decide +kernel
theorem dX2_agree_27 : decode cX2_agree 27 = .ok (.ifCond .eq 13, 3) := by decide +kernel
theorem dX2_agree_30 : decode cX2_agree 30 = .ok (.new 59, 3) := by decide +kernel
theorem dX2_agree_33 : decode cX2_agree 33 = .ok (.dup, 1) := by decide +kernel
theorem dX2_agree_34 : decode cX2_agree 34 = .ok (.ldc 107, 2) := by decide +kernel
theorem dX2_agree_36 : decode cX2_agree 36 = .ok (.invokespecial 63, 3) := by decide +kernel
theorem dX2_agree_39 : decode cX2_agree 39 = .ok (.athrow, 1) := by decide +kernel
theorem dX2_agree_40 : decode cX2_agree 40 = .ok (.aload_n 0, 1) := by decide +kernel
theorem dX2_agree_41 : decode cX2_agree 41 = .ok (.getfield 31, 3) := by decide +kernel
theorem dX2_agree_44 : decode cX2_agree 44 = .ok (.iload_n 3, 1) := by decide +kernel
theorem dX2_agree_45 : decode cX2_agree 45 = .ok (.iconst 1, 1) := by decide +kernel
theorem dX2_agree_46 : decode cX2_agree 46 = .ok (.bastore, 1) := by decide +kernel
theorem dX2_agree_47 : decode cX2_agree 47 = .ok (.aload_n 0, 1) := by decide +kernel
theorem dX2_agree_48 : decode cX2_agree 48 = .ok (.invokevirtual 109, 3) := by decide +kernel
theorem dX2_agree_51 : decode cX2_agree 51 = .ok (.ireturn, 1) := by decide +kernel
set_option maxRecDepth 20000 in
theorem ggX2_isAgreed_X2_demandCables : GoodIn wsX2_isAgreed wsX2_demandCables := goodIn_ca (goodIn_r _ [6, 7, 8, 9, 5, 10, 11, 12, 13, 24, 25, 26, 27, 28, 29, 30, 31, 32] (by decide +kernel) (by decide +kernel)) (goodIn_sub (fun _ h => List.mem_cons_of_mem _ (List.mem_append_right _ h)) (by decide +kernel))
set_option maxRecDepth 20000 in
theorem gX2_isAgreed_X2_demandCables : GoodIn wsX2_isAgreed (wsV RX2 93 RX2 yX2_demandCables wsX2_demandCables) := goodIn_app (goodIn_of _ (by decide +kernel)) ggX2_isAgreed_X2_demandCables
set_option maxRecDepth 20000 in
theorem ggX2_isAgreed_X2_pairOf : GoodIn wsX2_isAgreed wsX2_pairOf := goodIn_r _ [16, 17, 18, 19, 20, 21, 22, 23] (by decide +kernel) (by decide +kernel)
set_option maxRecDepth 20000 in
theorem gX2_isAgreed_X2_pairOf : GoodIn wsX2_isAgreed (va_wsS RX2 96 yX2_pairOf wsX2_pairOf) := goodIn_app (goodIn_of _ (by decide +kernel)) ggX2_isAgreed_X2_pairOf
theorem dX2_isAgreed_0 : decode cX2_isAgreed 0 = .ok (.aload_n 0, 1) := by decide +kernel
theorem dX2_isAgreed_1 : decode cX2_isAgreed 1 = .ok (.iload_n 1, 1) := by decide +kernel
theorem dX2_isAgreed_2 : decode cX2_isAgreed 2 = .ok (.iload_n 2, 1) := by decide +kernel
theorem dX2_isAgreed_3 : decode cX2_isAgreed 3 = .ok (.invokevirtual 93, 3) := by decide +kernel
theorem dX2_isAgreed_6 : decode cX2_isAgreed 6 = .ok (.aload_n 0, 1) := by decide +kernel
theorem dX2_isAgreed_7 : decode cX2_isAgreed 7 = .ok (.getfield 31, 3) := by decide +kernel
theorem dX2_isAgreed_10 : decode cX2_isAgreed 10 = .ok (.iload_n 1, 1) := by decide +kernel
theorem dX2_isAgreed_11 : decode cX2_isAgreed 11 = .ok (.iload_n 2, 1) := by decide +kernel
theorem dX2_isAgreed_12 : decode cX2_isAgreed 12 = .ok (.invokestatic 96, 3) := by decide +kernel
theorem dX2_isAgreed_15 : decode cX2_isAgreed 15 = .ok (.baload, 1) := by decide +kernel
theorem dX2_isAgreed_16 : decode cX2_isAgreed 16 = .ok (.ireturn, 1) := by decide +kernel
set_option maxRecDepth 20000 in
theorem ggX2_bare_X2_countBarePairs : GoodIn wsX2_bare wsX2_countBarePairs := goodIn_r _ [5, 6, 7, 8, 9, 10, 4, 11, 12, 13, 14, 15, 16, 17, 18, 19, 20, 21, 22, 23, 24, 25, 26, 27] (by decide +kernel) (by decide +kernel)
set_option maxRecDepth 20000 in
theorem gX2_bare_X2_countBarePairs : GoodIn wsX2_bare (wsV RX2 109 RX2 yX2_countBarePairs wsX2_countBarePairs) := goodIn_app (goodIn_of _ (by decide +kernel)) ggX2_bare_X2_countBarePairs
theorem dX2_bare_0 : decode cX2_bare 0 = .ok (.aload_n 0, 1) := by decide +kernel
theorem dX2_bare_1 : decode cX2_bare 1 = .ok (.invokevirtual 109, 3) := by decide +kernel
theorem dX2_bare_4 : decode cX2_bare 4 = .ok (.ireturn, 1) := by decide +kernel
set_option maxRecDepth 20000 in
theorem ggX2_ground_X2_demandPlace : GoodIn wsX2_ground wsX2_demandPlace := goodIn_ca (goodIn_r _ [10, 1, 2] (by decide +kernel) (by decide +kernel)) (goodIn_sub (fun _ h => List.mem_cons_of_mem _ (List.mem_append_left _ (List.mem_append_right _ h))) (by decide +kernel))
set_option maxRecDepth 20000 in
theorem gX2_ground_X2_demandPlace : GoodIn wsX2_ground (va_wsS RX2 48 yX2_demandPlace wsX2_demandPlace) := goodIn_app (goodIn_of _ (by decide +kernel)) ggX2_ground_X2_demandPlace
set_option maxRecDepth 20000 in
theorem ggX2_ground_X2_demandMonth : GoodIn wsX2_ground wsX2_demandMonth := goodIn_ca (goodIn_r _ [13, 1, 2] (by decide +kernel) (by decide +kernel)) (goodIn_sub (fun _ h => List.mem_cons_of_mem _ (List.mem_append_left _ (List.mem_append_right _ h))) (by decide +kernel))
set_option maxRecDepth 20000 in
theorem gX2_ground_X2_demandMonth : GoodIn wsX2_ground (va_wsS RX2 118 yX2_demandMonth wsX2_demandMonth) := goodIn_app (goodIn_of _ (by decide +kernel)) ggX2_ground_X2_demandMonth
set_option maxRecDepth 20000 in
theorem ggX2_ground_X0_setBounds : GoodIn wsX2_ground wsX0_setBounds := goodIn_r _ [17, 18, 19, 20, 21, 36, 37, 38, 39, 40, 41, 42, 43, 44] (by decide +kernel) (by decide +kernel)
set_option maxRecDepth 20000 in
theorem gX2_ground_X0_setBounds_n124 : GoodIn wsX2_ground (wsX0_setBounds) := ggX2_ground_X0_setBounds
set_option maxRecDepth 20000 in
theorem ggX2_ground_X0_setMonths : GoodIn wsX2_ground wsX0_setMonths := goodIn_r _ [24, 25, 26, 36, 37, 38, 39, 40, 41, 42, 43, 44] (by decide +kernel) (by decide +kernel)
set_option maxRecDepth 20000 in
theorem gX2_ground_X0_setMonths_n128 : GoodIn wsX2_ground (wsX0_setMonths) := ggX2_ground_X0_setMonths
theorem dX2_ground_0 : decode cX2_ground 0 = .ok (.iload_n 1, 1) := by decide +kernel
theorem dX2_ground_1 : decode cX2_ground 1 = .ok (.iload_n 2, 1) := by decide +kernel
theorem dX2_ground_2 : decode cX2_ground 2 = .ok (.invokestatic 48, 3) := by decide +kernel
theorem dX2_ground_5 : decode cX2_ground 5 = .ok (.iload_n 3, 1) := by decide +kernel
theorem dX2_ground_6 : decode cX2_ground 6 = .ok (.iload 4, 2) := by decide +kernel
theorem dX2_ground_8 : decode cX2_ground 8 = .ok (.invokestatic 48, 3) := by decide +kernel
theorem dX2_ground_11 : decode cX2_ground 11 = .ok (.iload_n 3, 1) := by decide +kernel
theorem dX2_ground_12 : decode cX2_ground 12 = .ok (.iload_n 1, 1) := by decide +kernel
theorem dX2_ground_13 : decode cX2_ground 13 = .ok (.if_icmp .lt 9, 3) := by decide +kernel
theorem dX2_ground_16 : decode cX2_ground 16 = .ok (.iload 4, 2) := by decide +kernel
theorem dX2_ground_18 : decode cX2_ground 18 = .ok (.iload_n 2, 1) := by decide +kernel
theorem dX2_ground_19 : decode cX2_ground 19 = .ok (.if_icmp .ge 13, 3) := by decide +kernel
theorem dX2_ground_22 : decode cX2_ground 22 = .ok (.new 113, 3) := by decide +kernel
theorem dX2_ground_25 : decode cX2_ground 25 = .ok (.dup, 1) := by decide +kernel
theorem dX2_ground_26 : decode cX2_ground 26 = .ok (.ldc 115, 2) := by decide +kernel
theorem dX2_ground_28 : decode cX2_ground 28 = .ok (.invokespecial 117, 3) := by decide +kernel
theorem dX2_ground_31 : decode cX2_ground 31 = .ok (.athrow, 1) := by decide +kernel
theorem dX2_ground_32 : decode cX2_ground 32 = .ok (.iload 5, 2) := by decide +kernel
theorem dX2_ground_34 : decode cX2_ground 34 = .ok (.invokestatic 118, 3) := by decide +kernel
theorem dX2_ground_37 : decode cX2_ground 37 = .ok (.iload 6, 2) := by decide +kernel
theorem dX2_ground_39 : decode cX2_ground 39 = .ok (.invokestatic 118, 3) := by decide +kernel
theorem dX2_ground_42 : decode cX2_ground 42 = .ok (.aload_n 0, 1) := by decide +kernel
theorem dX2_ground_43 : decode cX2_ground 43 = .ok (.getfield 41, 3) := by decide +kernel
theorem dX2_ground_46 : decode cX2_ground 46 = .ok (.iconst 5, 1) := by decide +kernel
theorem dX2_ground_47 : decode cX2_ground 47 = .ok (.if_icmp .lt 13, 3) := by decide +kernel
theorem dX2_ground_50 : decode cX2_ground 50 = .ok (.new 59, 3) := by decide +kernel
theorem dX2_ground_53 : decode cX2_ground 53 = .ok (.dup, 1) := by decide +kernel
theorem dX2_ground_54 : decode cX2_ground 54 = .ok (.ldc 122, 2) := by decide +kernel
theorem dX2_ground_56 : decode cX2_ground 56 = .ok (.invokespecial 63, 3) := by decide +kernel
theorem dX2_ground_59 : decode cX2_ground 59 = .ok (.athrow, 1) := by decide +kernel
theorem dX2_ground_60 : decode cX2_ground 60 = .ok (.aload_n 0, 1) := by decide +kernel
theorem dX2_ground_61 : decode cX2_ground 61 = .ok (.getfield 41, 3) := by decide +kernel
theorem dX2_ground_64 : decode cX2_ground 64 = .ok (.istore 7, 2) := by decide +kernel
theorem dX2_ground_66 : decode cX2_ground 66 = .ok (.aload_n 0, 1) := by decide +kernel
theorem dX2_ground_67 : decode cX2_ground 67 = .ok (.getfield 37, 3) := by decide +kernel
theorem dX2_ground_70 : decode cX2_ground 70 = .ok (.iload 7, 2) := by decide +kernel
theorem dX2_ground_72 : decode cX2_ground 72 = .ok (.aaload, 1) := by decide +kernel
theorem dX2_ground_73 : decode cX2_ground 73 = .ok (.iload_n 1, 1) := by decide +kernel
theorem dX2_ground_74 : decode cX2_ground 74 = .ok (.iload_n 2, 1) := by decide +kernel
theorem dX2_ground_75 : decode cX2_ground 75 = .ok (.iload_n 3, 1) := by decide +kernel
theorem dX2_ground_76 : decode cX2_ground 76 = .ok (.iload 4, 2) := by decide +kernel
theorem dX2_ground_78 : decode cX2_ground 78 = .ok (.invokevirtual 124, 3) := by decide +kernel
theorem dX2_ground_81 : decode cX2_ground 81 = .ok (.aload_n 0, 1) := by decide +kernel
theorem dX2_ground_82 : decode cX2_ground 82 = .ok (.getfield 37, 3) := by decide +kernel
theorem dX2_ground_85 : decode cX2_ground 85 = .ok (.iload 7, 2) := by decide +kernel
theorem dX2_ground_87 : decode cX2_ground 87 = .ok (.aaload, 1) := by decide +kernel
theorem dX2_ground_88 : decode cX2_ground 88 = .ok (.iload 5, 2) := by decide +kernel
theorem dX2_ground_90 : decode cX2_ground 90 = .ok (.iload 6, 2) := by decide +kernel
theorem dX2_ground_92 : decode cX2_ground 92 = .ok (.invokevirtual 128, 3) := by decide +kernel
theorem dX2_ground_95 : decode cX2_ground 95 = .ok (.aload_n 0, 1) := by decide +kernel
theorem dX2_ground_96 : decode cX2_ground 96 = .ok (.dup, 1) := by decide +kernel
theorem dX2_ground_97 : decode cX2_ground 97 = .ok (.getfield 41, 3) := by decide +kernel
theorem dX2_ground_100 : decode cX2_ground 100 = .ok (.iconst 1, 1) := by decide +kernel
theorem dX2_ground_101 : decode cX2_ground 101 = .ok (.iadd, 1) := by decide +kernel
theorem dX2_ground_102 : decode cX2_ground 102 = .ok (.putfield 41, 3) := by decide +kernel
theorem dX2_ground_105 : decode cX2_ground 105 = .ok (.iload 7, 2) := by decide +kernel
theorem dX2_ground_107 : decode cX2_ground 107 = .ok (.ireturn, 1) := by decide +kernel
set_option maxRecDepth 20000 in
theorem ggX2_tell_X2_demandGround : GoodIn wsX2_tell wsX2_demandGround := goodIn_ca (goodIn_r _ [11, 12, 13, 14, 21, 22, 23, 24, 25, 26, 27, 28, 29] (by decide +kernel) (by decide +kernel)) (goodIn_sub (fun _ h => List.mem_cons_of_mem _ (List.mem_append_right _ h)) (by decide +kernel))
set_option maxRecDepth 20000 in
theorem gX2_tell_X2_demandGround : GoodIn wsX2_tell (wsV RX2 131 RX2 yX2_demandGround wsX2_demandGround) := goodIn_app (goodIn_of _ (by decide +kernel)) ggX2_tell_X2_demandGround
set_option maxRecDepth 20000 in
theorem ggX2_tell_X0_price : GoodIn wsX2_tell wsX0_price := goodIn_r _ [18, 19, 20, 30, 31, 32, 33, 34, 35, 36, 37, 38] (by decide +kernel) (by decide +kernel)
set_option maxRecDepth 20000 in
theorem gX2_tell_X0_price_n145 : GoodIn wsX2_tell (wsX0_price) := ggX2_tell_X0_price
theorem dX2_tell_0 : decode cX2_tell 0 = .ok (.aload_n 0, 1) := by decide +kernel
theorem dX2_tell_1 : decode cX2_tell 1 = .ok (.iload_n 1, 1) := by decide +kernel
theorem dX2_tell_2 : decode cX2_tell 2 = .ok (.invokevirtual 131, 3) := by decide +kernel
theorem dX2_tell_5 : decode cX2_tell 5 = .ok (.iload_n 2, 1) := by decide +kernel
theorem dX2_tell_6 : decode cX2_tell 6 = .ok (.ifCond .lt 9, 3) := by decide +kernel
theorem dX2_tell_9 : decode cX2_tell 9 = .ok (.iload_n 2, 1) := by decide +kernel
theorem dX2_tell_10 : decode cX2_tell 10 = .ok (.ldc 134, 2) := by decide +kernel
theorem dX2_tell_12 : decode cX2_tell 12 = .ok (.if_icmp .le 13, 3) := by decide +kernel
theorem dX2_tell_15 : decode cX2_tell 15 = .ok (.new 113, 3) := by decide +kernel
theorem dX2_tell_18 : decode cX2_tell 18 = .ok (.dup, 1) := by decide +kernel
theorem dX2_tell_19 : decode cX2_tell 19 = .ok (.ldc 135, 2) := by decide +kernel
theorem dX2_tell_21 : decode cX2_tell 21 = .ok (.invokespecial 117, 3) := by decide +kernel
theorem dX2_tell_24 : decode cX2_tell 24 = .ok (.athrow, 1) := by decide +kernel
theorem dX2_tell_25 : decode cX2_tell 25 = .ok (.aload_n 0, 1) := by decide +kernel
theorem dX2_tell_26 : decode cX2_tell 26 = .ok (.getfield 37, 3) := by decide +kernel
theorem dX2_tell_29 : decode cX2_tell 29 = .ok (.iload_n 1, 1) := by decide +kernel
theorem dX2_tell_30 : decode cX2_tell 30 = .ok (.aaload, 1) := by decide +kernel
theorem dX2_tell_31 : decode cX2_tell 31 = .ok (.astore_n 3, 1) := by decide +kernel
theorem dX2_tell_32 : decode cX2_tell 32 = .ok (.aload_n 3, 1) := by decide +kernel
theorem dX2_tell_33 : decode cX2_tell 33 = .ok (.getfield 137, 3) := by decide +kernel
theorem dX2_tell_36 : decode cX2_tell 36 = .ok (.bipush 100, 2) := by decide +kernel
theorem dX2_tell_38 : decode cX2_tell 38 = .ok (.if_icmp .lt 13, 3) := by decide +kernel
theorem dX2_tell_41 : decode cX2_tell 41 = .ok (.new 59, 3) := by decide +kernel
theorem dX2_tell_44 : decode cX2_tell 44 = .ok (.dup, 1) := by decide +kernel
theorem dX2_tell_45 : decode cX2_tell 45 = .ok (.ldc 140, 2) := by decide +kernel
theorem dX2_tell_47 : decode cX2_tell 47 = .ok (.invokespecial 63, 3) := by decide +kernel
theorem dX2_tell_50 : decode cX2_tell 50 = .ok (.athrow, 1) := by decide +kernel
theorem dX2_tell_51 : decode cX2_tell 51 = .ok (.aload_n 3, 1) := by decide +kernel
theorem dX2_tell_52 : decode cX2_tell 52 = .ok (.dup, 1) := by decide +kernel
theorem dX2_tell_53 : decode cX2_tell 53 = .ok (.getfield 137, 3) := by decide +kernel
theorem dX2_tell_56 : decode cX2_tell 56 = .ok (.iconst 1, 1) := by decide +kernel
theorem dX2_tell_57 : decode cX2_tell 57 = .ok (.iadd, 1) := by decide +kernel
theorem dX2_tell_58 : decode cX2_tell 58 = .ok (.putfield 137, 3) := by decide +kernel
theorem dX2_tell_61 : decode cX2_tell 61 = .ok (.aload_n 3, 1) := by decide +kernel
theorem dX2_tell_62 : decode cX2_tell 62 = .ok (.dup, 1) := by decide +kernel
theorem dX2_tell_63 : decode cX2_tell 63 = .ok (.getfield 142, 3) := by decide +kernel
theorem dX2_tell_66 : decode cX2_tell 66 = .ok (.iload_n 2, 1) := by decide +kernel
theorem dX2_tell_67 : decode cX2_tell 67 = .ok (.iadd, 1) := by decide +kernel
theorem dX2_tell_68 : decode cX2_tell 68 = .ok (.putfield 142, 3) := by decide +kernel
theorem dX2_tell_71 : decode cX2_tell 71 = .ok (.aload_n 3, 1) := by decide +kernel
theorem dX2_tell_72 : decode cX2_tell 72 = .ok (.invokevirtual 145, 3) := by decide +kernel
theorem dX2_tell_75 : decode cX2_tell 75 = .ok (.ireturn, 1) := by decide +kernel
set_option maxRecDepth 20000 in
theorem ggX2_isClosed_X2_demandGround : GoodIn wsX2_isClosed wsX2_demandGround := goodIn_ca (goodIn_r _ [6, 7, 8, 9, 21, 22, 23, 24, 25, 26, 27, 28, 29] (by decide +kernel) (by decide +kernel)) (goodIn_sub (fun _ h => List.mem_cons_of_mem _ (List.mem_append_left _ (List.mem_append_right _ h))) (by decide +kernel))
set_option maxRecDepth 20000 in
theorem gX2_isClosed_X2_demandGround : GoodIn wsX2_isClosed (wsV RX2 131 RX2 yX2_demandGround wsX2_demandGround) := goodIn_app (goodIn_of _ (by decide +kernel)) ggX2_isClosed_X2_demandGround
set_option maxRecDepth 20000 in
theorem ggX2_isClosed_X2_demandMonth : GoodIn wsX2_isClosed wsX2_demandMonth := goodIn_ca (goodIn_r _ [12, 13, 14] (by decide +kernel) (by decide +kernel)) (goodIn_sub (fun _ h => List.mem_cons_of_mem _ (List.mem_append_right _ h)) (by decide +kernel))
set_option maxRecDepth 20000 in
theorem gX2_isClosed_X2_demandMonth : GoodIn wsX2_isClosed (va_wsS RX2 118 yX2_demandMonth wsX2_demandMonth) := goodIn_app (goodIn_of _ (by decide +kernel)) ggX2_isClosed_X2_demandMonth
set_option maxRecDepth 20000 in
theorem ggX2_isClosed_X0_isShutIn : GoodIn wsX2_isClosed wsX0_isShutIn := goodIn_r _ [18, 19, 20, 30, 31, 32, 33, 34, 35, 36, 37, 38] (by decide +kernel) (by decide +kernel)
set_option maxRecDepth 20000 in
theorem gX2_isClosed_X0_isShutIn_n148 : GoodIn wsX2_isClosed (wsX0_isShutIn) := ggX2_isClosed_X0_isShutIn
theorem dX2_isClosed_0 : decode cX2_isClosed 0 = .ok (.aload_n 0, 1) := by decide +kernel
theorem dX2_isClosed_1 : decode cX2_isClosed 1 = .ok (.iload_n 1, 1) := by decide +kernel
theorem dX2_isClosed_2 : decode cX2_isClosed 2 = .ok (.invokevirtual 131, 3) := by decide +kernel
theorem dX2_isClosed_5 : decode cX2_isClosed 5 = .ok (.iload_n 2, 1) := by decide +kernel
theorem dX2_isClosed_6 : decode cX2_isClosed 6 = .ok (.invokestatic 118, 3) := by decide +kernel
theorem dX2_isClosed_9 : decode cX2_isClosed 9 = .ok (.aload_n 0, 1) := by decide +kernel
theorem dX2_isClosed_10 : decode cX2_isClosed 10 = .ok (.getfield 37, 3) := by decide +kernel
theorem dX2_isClosed_13 : decode cX2_isClosed 13 = .ok (.iload_n 1, 1) := by decide +kernel
theorem dX2_isClosed_14 : decode cX2_isClosed 14 = .ok (.aaload, 1) := by decide +kernel
theorem dX2_isClosed_15 : decode cX2_isClosed 15 = .ok (.iload_n 2, 1) := by decide +kernel
theorem dX2_isClosed_16 : decode cX2_isClosed 16 = .ok (.invokevirtual 148, 3) := by decide +kernel
theorem dX2_isClosed_19 : decode cX2_isClosed 19 = .ok (.ireturn, 1) := by decide +kernel
set_option maxRecDepth 20000 in
theorem ggX2_touches_X2_demandPiece : GoodIn wsX2_touches wsX2_demandPiece := goodIn_ca (goodIn_r _ [7, 8, 9, 1, 10, 11, 12, 6, 13, 14, 15, 16, 17, 18, 19, 73, 74, 75, 76, 77, 78, 79, 80, 81, 82, 83, 84] (by decide +kernel) (by decide +kernel)) (goodIn_sub (fun _ h => List.mem_cons_of_mem _ (List.mem_append_right _ h)) (by decide +kernel))
set_option maxRecDepth 20000 in
theorem gX2_touches_X2_demandPiece : GoodIn wsX2_touches (wsV RX2 152 RX2 yX2_demandPiece wsX2_demandPiece) := goodIn_app (goodIn_of _ (by decide +kernel)) ggX2_touches_X2_demandPiece
set_option maxRecDepth 20000 in
theorem ggX2_touches_X2_demandGround : GoodIn wsX2_touches wsX2_demandGround := goodIn_ca (goodIn_r _ [23, 8, 9, 24, 73, 74, 75, 76, 77, 78, 79, 80, 81] (by decide +kernel) (by decide +kernel)) (goodIn_sub (fun _ h => List.mem_cons_of_mem _ (List.mem_append_right _ h)) (by decide +kernel))
set_option maxRecDepth 20000 in
theorem gX2_touches_X2_demandGround : GoodIn wsX2_touches (wsV RX2 131 RX2 yX2_demandGround wsX2_demandGround) := goodIn_app (goodIn_of _ (by decide +kernel)) ggX2_touches_X2_demandGround
set_option maxRecDepth 20000 in
theorem ggX2_touches_X1_pieceMeets : GoodIn wsX2_touches wsX1_pieceMeets := goodIn_r _ [27, 28, 29, 30, 16, 31, 32, 33, 34, 35, 36, 37, 38, 39, 40, 41, 42, 43, 44, 45, 46, 47, 48, 49, 50, 51, 52, 53, 54, 55, 56, 57, 58, 59, 60, 61, 62, 63, 64, 65, 66, 67, 68, 69, 70, 71, 72, 85, 86, 87, 88, 89, 90, 91, 92, 93, 82, 83, 84] (by decide +kernel) (by decide +kernel)
set_option maxRecDepth 20000 in
theorem gX2_touches_X1_pieceMeets_n155 : GoodIn wsX2_touches (wsX1_pieceMeets) := ggX2_touches_X1_pieceMeets
theorem dX2_touches_0 : decode cX2_touches 0 = .ok (.aload_n 0, 1) := by decide +kernel
theorem dX2_touches_1 : decode cX2_touches 1 = .ok (.iload_n 1, 1) := by decide +kernel
theorem dX2_touches_2 : decode cX2_touches 2 = .ok (.iload_n 2, 1) := by decide +kernel
theorem dX2_touches_3 : decode cX2_touches 3 = .ok (.invokevirtual 152, 3) := by decide +kernel
theorem dX2_touches_6 : decode cX2_touches 6 = .ok (.aload_n 0, 1) := by decide +kernel
theorem dX2_touches_7 : decode cX2_touches 7 = .ok (.iload_n 3, 1) := by decide +kernel
theorem dX2_touches_8 : decode cX2_touches 8 = .ok (.invokevirtual 131, 3) := by decide +kernel
theorem dX2_touches_11 : decode cX2_touches 11 = .ok (.aload_n 0, 1) := by decide +kernel
theorem dX2_touches_12 : decode cX2_touches 12 = .ok (.getfield 16, 3) := by decide +kernel
theorem dX2_touches_15 : decode cX2_touches 15 = .ok (.iload_n 1, 1) := by decide +kernel
theorem dX2_touches_16 : decode cX2_touches 16 = .ok (.aaload, 1) := by decide +kernel
theorem dX2_touches_17 : decode cX2_touches 17 = .ok (.iload_n 2, 1) := by decide +kernel
theorem dX2_touches_18 : decode cX2_touches 18 = .ok (.aload_n 0, 1) := by decide +kernel
theorem dX2_touches_19 : decode cX2_touches 19 = .ok (.getfield 37, 3) := by decide +kernel
theorem dX2_touches_22 : decode cX2_touches 22 = .ok (.iload_n 3, 1) := by decide +kernel
theorem dX2_touches_23 : decode cX2_touches 23 = .ok (.aaload, 1) := by decide +kernel
theorem dX2_touches_24 : decode cX2_touches 24 = .ok (.invokevirtual 155, 3) := by decide +kernel
theorem dX2_touches_27 : decode cX2_touches 27 = .ok (.ireturn, 1) := by decide +kernel
set_option maxRecDepth 20000 in
theorem ggX2_lifted_X2_demandPiece : GoodIn wsX2_lifted wsX2_demandPiece := goodIn_ca (goodIn_r _ [5, 6, 7, 8, 9, 10, 11, 4, 12, 13, 14, 15, 16, 17, 18, 92, 93, 94, 95, 96, 97, 98, 99, 100, 101, 102, 103] (by decide +kernel) (by decide +kernel)) (goodIn_sub (fun _ h => List.mem_cons_of_mem _ (List.mem_append_right _ h)) (by decide +kernel))
set_option maxRecDepth 20000 in
theorem gX2_lifted_X2_demandPiece : GoodIn wsX2_lifted (wsV RX2 152 RX2 yX2_demandPiece wsX2_demandPiece) := goodIn_app (goodIn_of _ (by decide +kernel)) ggX2_lifted_X2_demandPiece
set_option maxRecDepth 20000 in
theorem ggX2_lifted_X2_liftedWith : GoodIn wsX2_lifted wsX2_liftedWith := goodIn_r _ [22, 13, 23, 24, 4, 25, 26, 27, 28, 29, 8, 14, 15, 16, 17, 18, 30, 31, 32, 33, 34, 35, 36, 37, 38, 39, 40, 41, 42, 43, 44, 45, 46, 47, 48, 49, 50, 51, 52, 53, 54, 55, 56, 57, 58, 59, 60, 61, 62, 63, 64, 65, 66, 67, 68, 69, 70, 71, 72, 73, 74, 75, 76, 77, 78, 79, 80, 81, 82, 83, 84, 92, 93, 94, 95, 96, 97, 98, 99, 100, 101, 102, 103] (by decide +kernel) (by decide +kernel)
set_option maxRecDepth 20000 in
theorem gX2_lifted_X2_liftedWith : GoodIn wsX2_lifted (wsV RX2 159 RX2 yX2_liftedWith wsX2_liftedWith) := goodIn_app (goodIn_of _ (by decide +kernel)) ggX2_lifted_X2_liftedWith
set_option maxRecDepth 20000 in
theorem ggX2_lifted_J13_bitCount_95d88 : GoodIn wsX2_lifted wsJ13_bitCount_95d88 := goodIn_r _ [88, 89, 90, 91] (by decide +kernel) (by decide +kernel)
set_option maxRecDepth 20000 in
theorem gX2_lifted_J13_bitCount_95d88 : GoodIn wsX2_lifted (va_wsS RX2 163 yJ13_bitCount_95d88 wsJ13_bitCount_95d88) := goodIn_app (goodIn_of _ (by decide +kernel)) ggX2_lifted_J13_bitCount_95d88
theorem dX2_lifted_0 : decode cX2_lifted 0 = .ok (.aload_n 0, 1) := by decide +kernel
theorem dX2_lifted_1 : decode cX2_lifted 1 = .ok (.iload_n 1, 1) := by decide +kernel
theorem dX2_lifted_2 : decode cX2_lifted 2 = .ok (.iload_n 2, 1) := by decide +kernel
theorem dX2_lifted_3 : decode cX2_lifted 3 = .ok (.invokevirtual 152, 3) := by decide +kernel
theorem dX2_lifted_6 : decode cX2_lifted 6 = .ok (.aload_n 0, 1) := by decide +kernel
theorem dX2_lifted_7 : decode cX2_lifted 7 = .ok (.iload_n 1, 1) := by decide +kernel
theorem dX2_lifted_8 : decode cX2_lifted 8 = .ok (.iload_n 2, 1) := by decide +kernel
theorem dX2_lifted_9 : decode cX2_lifted 9 = .ok (.invokevirtual 159, 3) := by decide +kernel
theorem dX2_lifted_12 : decode cX2_lifted 12 = .ok (.invokestatic 163, 3) := by decide +kernel
theorem dX2_lifted_15 : decode cX2_lifted 15 = .ok (.ireturn, 1) := by decide +kernel
set_option maxRecDepth 20000 in
theorem ggX2_cost_X2_demandPiece : GoodIn wsX2_cost wsX2_demandPiece := goodIn_ca (goodIn_r _ [5, 6, 7, 8, 9, 10, 11, 4, 12, 13, 14, 15, 16, 17, 18, 139, 140, 141, 142, 143, 144, 145, 146, 147, 148, 149, 150] (by decide +kernel) (by decide +kernel)) (goodIn_sub (fun _ h => List.mem_cons_of_mem _ (List.mem_append_left _ (List.mem_append_right _ h))) (by decide +kernel))
set_option maxRecDepth 20000 in
theorem gX2_cost_X2_demandPiece : GoodIn wsX2_cost (wsV RX2 152 RX2 yX2_demandPiece wsX2_demandPiece) := goodIn_app (goodIn_of _ (by decide +kernel)) ggX2_cost_X2_demandPiece
set_option maxRecDepth 20000 in
theorem ggX2_cost_X2_demandMonth : GoodIn wsX2_cost wsX2_demandMonth := goodIn_ca (goodIn_r _ [21, 22, 23] (by decide +kernel) (by decide +kernel)) (goodIn_sub (fun _ h => List.mem_cons_of_mem _ (List.mem_append_right _ h)) (by decide +kernel))
set_option maxRecDepth 20000 in
theorem gX2_cost_X2_demandMonth : GoodIn wsX2_cost (va_wsS RX2 118 yX2_demandMonth wsX2_demandMonth) := goodIn_app (goodIn_of _ (by decide +kernel)) ggX2_cost_X2_demandMonth
set_option maxRecDepth 20000 in
theorem ggX2_cost_X2_liftedWith : GoodIn wsX2_cost wsX2_liftedWith := goodIn_r _ [27, 13, 28, 29, 4, 30, 31, 32, 33, 34, 8, 14, 15, 16, 17, 18, 35, 36, 37, 38, 39, 40, 41, 42, 43, 44, 45, 46, 47, 48, 49, 50, 51, 52, 53, 54, 55, 56, 57, 58, 59, 60, 61, 62, 63, 64, 65, 66, 67, 68, 69, 70, 71, 72, 73, 74, 75, 76, 77, 78, 79, 80, 81, 82, 83, 84, 85, 86, 87, 88, 89, 139, 140, 141, 142, 143, 144, 145, 146, 147, 148, 149, 150] (by decide +kernel) (by decide +kernel)
set_option maxRecDepth 20000 in
theorem gX2_cost_X2_liftedWith : GoodIn wsX2_cost (wsV RX2 159 RX2 yX2_liftedWith wsX2_liftedWith) := goodIn_app (goodIn_of _ (by decide +kernel)) ggX2_cost_X2_liftedWith
set_option maxRecDepth 20000 in
theorem ggX2_cost_X2_isPossible : GoodIn wsX2_cost wsX2_isPossible := goodIn_r _ [93, 13, 94, 95, 96, 4, 97, 98, 51, 52, 53, 99, 64, 65, 31, 32, 33, 34, 8, 14, 15, 16, 17, 18, 35, 36, 37, 38, 39, 40, 41, 28, 29, 30, 42, 43, 44, 45, 46, 47, 48, 49, 50, 54, 55, 56, 57, 58, 59, 60, 61, 62, 63, 66, 67, 68, 69, 70, 71, 72, 73, 74, 75, 76, 77, 78, 79, 80, 81, 82, 83, 84, 85, 86, 87, 88, 89, 139, 140, 141, 142, 143, 144, 145, 146, 147, 148, 149, 150] (by decide +kernel) (by decide +kernel)
set_option maxRecDepth 20000 in
theorem gX2_cost_X2_isPossible : GoodIn wsX2_cost (wsV RX2 169 RX2 yX2_isPossible wsX2_isPossible) := goodIn_app (goodIn_of _ (by decide +kernel)) ggX2_cost_X2_isPossible
set_option maxRecDepth 20000 in
theorem ggX2_cost_X2_costOf : GoodIn wsX2_cost wsX2_costOf := goodIn_r _ [103, 104, 105, 106, 107, 108, 109, 110, 111, 112, 113, 114, 115, 4, 116, 117, 118, 119, 120, 121, 122, 123, 124, 125, 126, 13, 8, 14, 15, 16, 17, 18, 39, 40, 41, 28, 29, 30, 127, 128, 129, 70, 71, 72, 73, 45, 46, 47, 48, 49, 50, 51, 52, 53, 59, 60, 61, 62, 63, 64, 65, 54, 55, 56, 57, 58, 66, 67, 68, 69, 130, 131, 132, 133, 78, 79, 80, 81, 82, 83, 84, 85, 86, 87, 88, 89, 134, 135, 136, 137, 138, 139, 140, 141, 142, 143, 144, 145, 146, 147, 151, 152, 153, 154, 155, 156, 157, 158, 159, 148, 149, 150] (by decide +kernel) (by decide +kernel)
set_option maxRecDepth 20000 in
theorem gX2_cost_X2_costOf : GoodIn wsX2_cost (wsV RX2 173 RX2 yX2_costOf wsX2_costOf) := goodIn_app (goodIn_of _ (by decide +kernel)) ggX2_cost_X2_costOf
theorem dX2_cost_0 : decode cX2_cost 0 = .ok (.aload_n 0, 1) := by decide +kernel
theorem dX2_cost_1 : decode cX2_cost 1 = .ok (.iload_n 1, 1) := by decide +kernel
theorem dX2_cost_2 : decode cX2_cost 2 = .ok (.iload_n 2, 1) := by decide +kernel
theorem dX2_cost_3 : decode cX2_cost 3 = .ok (.invokevirtual 152, 3) := by decide +kernel
theorem dX2_cost_6 : decode cX2_cost 6 = .ok (.iload_n 3, 1) := by decide +kernel
theorem dX2_cost_7 : decode cX2_cost 7 = .ok (.invokestatic 118, 3) := by decide +kernel
theorem dX2_cost_10 : decode cX2_cost 10 = .ok (.aload_n 0, 1) := by decide +kernel
theorem dX2_cost_11 : decode cX2_cost 11 = .ok (.iload_n 1, 1) := by decide +kernel
theorem dX2_cost_12 : decode cX2_cost 12 = .ok (.iload_n 2, 1) := by decide +kernel
theorem dX2_cost_13 : decode cX2_cost 13 = .ok (.invokevirtual 159, 3) := by decide +kernel
theorem dX2_cost_16 : decode cX2_cost 16 = .ok (.lstore 4, 2) := by decide +kernel
theorem dX2_cost_18 : decode cX2_cost 18 = .ok (.aload_n 0, 1) := by decide +kernel
theorem dX2_cost_19 : decode cX2_cost 19 = .ok (.lload 4, 2) := by decide +kernel
theorem dX2_cost_21 : decode cX2_cost 21 = .ok (.invokevirtual 169, 3) := by decide +kernel
theorem dX2_cost_24 : decode cX2_cost 24 = .ok (.ifCond .eq 13, 3) := by decide +kernel
theorem dX2_cost_27 : decode cX2_cost 27 = .ok (.aload_n 0, 1) := by decide +kernel
theorem dX2_cost_28 : decode cX2_cost 28 = .ok (.lload 4, 2) := by decide +kernel
theorem dX2_cost_30 : decode cX2_cost 30 = .ok (.iload_n 3, 1) := by decide +kernel
theorem dX2_cost_31 : decode cX2_cost 31 = .ok (.invokevirtual 173, 3) := by decide +kernel
theorem dX2_cost_34 : decode cX2_cost 34 = .ok (.goto 4, 3) := by decide +kernel
theorem dX2_cost_37 : decode cX2_cost 37 = .ok (.iconst (-1), 1) := by decide +kernel
theorem dX2_cost_38 : decode cX2_cost 38 = .ok (.ireturn, 1) := by decide +kernel
set_option maxRecDepth 20000 in
theorem ggX2_repair_X2_demandPiece : GoodIn wsX2_repair wsX2_demandPiece := goodIn_ca (goodIn_r _ [8, 9, 10, 11, 12, 13, 14, 7, 15, 16, 17, 18, 19, 20, 21, 146, 147, 148, 149, 150, 151, 152, 153, 154, 155, 156, 157] (by decide +kernel) (by decide +kernel)) (goodIn_sub (fun _ h => List.mem_cons_of_mem _ (List.mem_append_left _ (List.mem_append_right _ h))) (by decide +kernel))
set_option maxRecDepth 20000 in
theorem gX2_repair_X2_demandPiece : GoodIn wsX2_repair (wsV RX2 152 RX2 yX2_demandPiece wsX2_demandPiece) := goodIn_app (goodIn_of _ (by decide +kernel)) ggX2_repair_X2_demandPiece
set_option maxRecDepth 20000 in
theorem ggX2_repair_X2_demandMonth : GoodIn wsX2_repair wsX2_demandMonth := goodIn_ca (goodIn_r _ [24, 25, 26] (by decide +kernel) (by decide +kernel)) (goodIn_sub (fun _ h => List.mem_cons_of_mem _ (List.mem_append_right _ h)) (by decide +kernel))
set_option maxRecDepth 20000 in
theorem gX2_repair_X2_demandMonth : GoodIn wsX2_repair (va_wsS RX2 118 yX2_demandMonth wsX2_demandMonth) := goodIn_app (goodIn_of _ (by decide +kernel)) ggX2_repair_X2_demandMonth
set_option maxRecDepth 20000 in
theorem ggX2_repair_X2_liftedWith : GoodIn wsX2_repair wsX2_liftedWith := goodIn_r _ [30, 16, 31, 32, 7, 33, 34, 35, 36, 37, 11, 17, 18, 19, 20, 21, 38, 39, 40, 41, 42, 43, 44, 45, 46, 47, 48, 49, 50, 51, 52, 53, 54, 55, 56, 57, 58, 59, 60, 61, 62, 63, 64, 65, 66, 67, 68, 69, 70, 71, 72, 73, 74, 75, 76, 77, 78, 79, 80, 81, 82, 83, 84, 85, 86, 87, 88, 89, 90, 91, 92, 146, 147, 148, 149, 150, 151, 152, 153, 154, 155, 156, 157] (by decide +kernel) (by decide +kernel)
set_option maxRecDepth 20000 in
theorem gX2_repair_X2_liftedWith : GoodIn wsX2_repair (wsV RX2 159 RX2 yX2_liftedWith wsX2_liftedWith) := goodIn_app (goodIn_of _ (by decide +kernel)) ggX2_repair_X2_liftedWith
set_option maxRecDepth 20000 in
theorem ggX2_repair_X2_isPossible : GoodIn wsX2_repair wsX2_isPossible := goodIn_r _ [96, 16, 97, 98, 99, 7, 100, 101, 54, 55, 56, 102, 67, 68, 34, 35, 36, 37, 11, 17, 18, 19, 20, 21, 38, 39, 40, 41, 42, 43, 44, 31, 32, 33, 45, 46, 47, 48, 49, 50, 51, 52, 53, 57, 58, 59, 60, 61, 62, 63, 64, 65, 66, 69, 70, 71, 72, 73, 74, 75, 76, 77, 78, 79, 80, 81, 82, 83, 84, 85, 86, 87, 88, 89, 90, 91, 92, 146, 147, 148, 149, 150, 151, 152, 153, 154, 155, 156, 157] (by decide +kernel) (by decide +kernel)
set_option maxRecDepth 20000 in
theorem gX2_repair_X2_isPossible : GoodIn wsX2_repair (wsV RX2 169 RX2 yX2_isPossible wsX2_isPossible) := goodIn_app (goodIn_of _ (by decide +kernel)) ggX2_repair_X2_isPossible
set_option maxRecDepth 20000 in
theorem ggX2_repair_X2_payGrounds : GoodIn wsX2_repair wsX2_payGrounds := goodIn_r _ [106, 107, 108, 109, 110, 111, 7, 112, 113, 114, 115, 116, 117, 118, 119, 120, 121, 122, 16, 11, 17, 18, 19, 20, 21, 42, 43, 44, 31, 32, 33, 123, 124, 125, 73, 74, 75, 76, 48, 49, 50, 51, 52, 53, 54, 55, 56, 62, 63, 64, 65, 66, 67, 68, 57, 58, 59, 60, 61, 69, 70, 71, 72, 126, 127, 128, 129, 81, 82, 83, 84, 85, 86, 87, 88, 89, 90, 91, 92, 130, 131, 132, 133, 134, 146, 147, 148, 149, 150, 151, 152, 153, 154, 158, 159, 160, 161, 162, 163, 164, 165, 166, 155, 156, 157] (by decide +kernel) (by decide +kernel)
set_option maxRecDepth 20000 in
theorem gX2_repair_X2_payGrounds : GoodIn wsX2_repair (wsV RX2 179 RX2 yX2_payGrounds wsX2_payGrounds) := goodIn_app (goodIn_of _ (by decide +kernel)) ggX2_repair_X2_payGrounds
set_option maxRecDepth 20000 in
theorem ggX2_repair_X2_costOf : GoodIn wsX2_repair wsX2_costOf := goodIn_r _ [138, 107, 108, 139, 140, 141, 142, 143, 144, 145, 109, 110, 111, 7, 112, 113, 114, 115, 116, 117, 118, 119, 120, 121, 122, 16, 11, 17, 18, 19, 20, 21, 42, 43, 44, 31, 32, 33, 123, 124, 125, 73, 74, 75, 76, 48, 49, 50, 51, 52, 53, 54, 55, 56, 62, 63, 64, 65, 66, 67, 68, 57, 58, 59, 60, 61, 69, 70, 71, 72, 126, 127, 128, 129, 81, 82, 83, 84, 85, 86, 87, 88, 89, 90, 91, 92, 130, 131, 132, 133, 134, 146, 147, 148, 149, 150, 151, 152, 153, 154, 158, 159, 160, 161, 162, 163, 164, 165, 166, 155, 156, 157] (by decide +kernel) (by decide +kernel)
set_option maxRecDepth 20000 in
theorem gX2_repair_X2_costOf : GoodIn wsX2_repair (wsV RX2 173 RX2 yX2_costOf wsX2_costOf) := goodIn_app (goodIn_of _ (by decide +kernel)) ggX2_repair_X2_costOf
theorem dX2_repair_0 : decode cX2_repair 0 = .ok (.aload_n 0, 1) := by decide +kernel
theorem dX2_repair_1 : decode cX2_repair 1 = .ok (.iload_n 1, 1) := by decide +kernel
theorem dX2_repair_2 : decode cX2_repair 2 = .ok (.iload_n 2, 1) := by decide +kernel
theorem dX2_repair_3 : decode cX2_repair 3 = .ok (.invokevirtual 152, 3) := by decide +kernel
theorem dX2_repair_6 : decode cX2_repair 6 = .ok (.iload_n 3, 1) := by decide +kernel
theorem dX2_repair_7 : decode cX2_repair 7 = .ok (.invokestatic 118, 3) := by decide +kernel
theorem dX2_repair_10 : decode cX2_repair 10 = .ok (.aload_n 0, 1) := by decide +kernel
theorem dX2_repair_11 : decode cX2_repair 11 = .ok (.iload_n 1, 1) := by decide +kernel
theorem dX2_repair_12 : decode cX2_repair 12 = .ok (.iload_n 2, 1) := by decide +kernel
theorem dX2_repair_13 : decode cX2_repair 13 = .ok (.invokevirtual 159, 3) := by decide +kernel
theorem dX2_repair_16 : decode cX2_repair 16 = .ok (.lstore 4, 2) := by decide +kernel
theorem dX2_repair_18 : decode cX2_repair 18 = .ok (.aload_n 0, 1) := by decide +kernel
theorem dX2_repair_19 : decode cX2_repair 19 = .ok (.getfield 44, 3) := by decide +kernel
theorem dX2_repair_22 : decode cX2_repair 22 = .ok (.sipush 500, 3) := by decide +kernel
theorem dX2_repair_25 : decode cX2_repair 25 = .ok (.if_icmp .ge 12, 3) := by decide +kernel
theorem dX2_repair_28 : decode cX2_repair 28 = .ok (.aload_n 0, 1) := by decide +kernel
theorem dX2_repair_29 : decode cX2_repair 29 = .ok (.lload 4, 2) := by decide +kernel
theorem dX2_repair_31 : decode cX2_repair 31 = .ok (.invokevirtual 169, 3) := by decide +kernel
theorem dX2_repair_34 : decode cX2_repair 34 = .ok (.ifCond .ne 13, 3) := by decide +kernel
theorem dX2_repair_37 : decode cX2_repair 37 = .ok (.new 59, 3) := by decide +kernel
end
section
theorem dX2_repair_40 : decode cX2_repair 40 = .ok (.dup, 1) := by decide +kernel
theorem dX2_repair_41 : decode cX2_repair 41 = .ok (.ldc 177, 2) := by decide +kernel
theorem dX2_repair_43 : decode cX2_repair 43 = .ok (.invokespecial 63, 3) := by decide +kernel
theorem dX2_repair_46 : decode cX2_repair 46 = .ok (.athrow, 1) := by decide +kernel
theorem dX2_repair_47 : decode cX2_repair 47 = .ok (.aload_n 0, 1) := by decide +kernel
theorem dX2_repair_48 : decode cX2_repair 48 = .ok (.dup, 1) := by decide +kernel
theorem dX2_repair_49 : decode cX2_repair 49 = .ok (.getfield 44, 3) := by decide +kernel
theorem dX2_repair_52 : decode cX2_repair 52 = .ok (.iconst 1, 1) := by decide +kernel
theorem dX2_repair_53 : decode cX2_repair 53 = .ok (.iadd, 1) := by decide +kernel
theorem dX2_repair_54 : decode cX2_repair 54 = .ok (.putfield 44, 3) := by decide +kernel
theorem dX2_repair_57 : decode cX2_repair 57 = .ok (.aload_n 0, 1) := by decide +kernel
theorem dX2_repair_58 : decode cX2_repair 58 = .ok (.lload 4, 2) := by decide +kernel
theorem dX2_repair_60 : decode cX2_repair 60 = .ok (.iload_n 3, 1) := by decide +kernel
theorem dX2_repair_61 : decode cX2_repair 61 = .ok (.invokevirtual 179, 3) := by decide +kernel
theorem dX2_repair_64 : decode cX2_repair 64 = .ok (.aload_n 0, 1) := by decide +kernel
theorem dX2_repair_65 : decode cX2_repair 65 = .ok (.lload 4, 2) := by decide +kernel
theorem dX2_repair_67 : decode cX2_repair 67 = .ok (.iload_n 3, 1) := by decide +kernel
theorem dX2_repair_68 : decode cX2_repair 68 = .ok (.invokevirtual 173, 3) := by decide +kernel
theorem dX2_repair_71 : decode cX2_repair 71 = .ok (.ireturn, 1) := by decide +kernel
set_option maxRecDepth 20000 in
theorem ggX2_paid_X2_demandGround : GoodIn wsX2_paid wsX2_demandGround := goodIn_ca (goodIn_r _ [6, 7, 8, 9, 10, 11, 12, 13, 14, 15, 16, 17, 18] (by decide +kernel) (by decide +kernel)) (goodIn_sub (fun _ h => List.mem_cons_of_mem _ (List.mem_append_right _ h)) (by decide +kernel))
set_option maxRecDepth 20000 in
theorem gX2_paid_X2_demandGround : GoodIn wsX2_paid (wsV RX2 131 RX2 yX2_demandGround wsX2_demandGround) := goodIn_app (goodIn_of _ (by decide +kernel)) ggX2_paid_X2_demandGround
theorem dX2_paid_0 : decode cX2_paid 0 = .ok (.aload_n 0, 1) := by decide +kernel
theorem dX2_paid_1 : decode cX2_paid 1 = .ok (.iload_n 1, 1) := by decide +kernel
theorem dX2_paid_2 : decode cX2_paid 2 = .ok (.invokevirtual 131, 3) := by decide +kernel
theorem dX2_paid_5 : decode cX2_paid 5 = .ok (.aload_n 0, 1) := by decide +kernel
theorem dX2_paid_6 : decode cX2_paid 6 = .ok (.getfield 37, 3) := by decide +kernel
theorem dX2_paid_9 : decode cX2_paid 9 = .ok (.iload_n 1, 1) := by decide +kernel
theorem dX2_paid_10 : decode cX2_paid 10 = .ok (.aaload, 1) := by decide +kernel
theorem dX2_paid_11 : decode cX2_paid 11 = .ok (.getfield 183, 3) := by decide +kernel
theorem dX2_paid_14 : decode cX2_paid 14 = .ok (.ireturn, 1) := by decide +kernel
theorem dX2_demandPlace_0 : decode cX2_demandPlace 0 = .ok (.iload_n 0, 1) := by decide +kernel
theorem dX2_demandPlace_1 : decode cX2_demandPlace 1 = .ok (.ifCond .lt 19, 3) := by decide +kernel
theorem dX2_demandPlace_4 : decode cX2_demandPlace 4 = .ok (.iload_n 0, 1) := by decide +kernel
theorem dX2_demandPlace_5 : decode cX2_demandPlace 5 = .ok (.bipush 99, 2) := by decide +kernel
theorem dX2_demandPlace_7 : decode cX2_demandPlace 7 = .ok (.if_icmp .gt 13, 3) := by decide +kernel
theorem dX2_demandPlace_10 : decode cX2_demandPlace 10 = .ok (.iload_n 1, 1) := by decide +kernel
theorem dX2_demandPlace_11 : decode cX2_demandPlace 11 = .ok (.ifCond .lt 9, 3) := by decide +kernel
theorem dX2_demandPlace_14 : decode cX2_demandPlace 14 = .ok (.iload_n 1, 1) := by decide +kernel
theorem dX2_demandPlace_15 : decode cX2_demandPlace 15 = .ok (.bipush 99, 2) := by decide +kernel
theorem dX2_demandPlace_17 : decode cX2_demandPlace 17 = .ok (.if_icmp .le 13, 3) := by decide +kernel
theorem dX2_demandPlace_20 : decode cX2_demandPlace 20 = .ok (.new 113, 3) := by decide +kernel
theorem dX2_demandPlace_23 : decode cX2_demandPlace 23 = .ok (.dup, 1) := by decide +kernel
theorem dX2_demandPlace_24 : decode cX2_demandPlace 24 = .ok (.ldc 186, 2) := by decide +kernel
theorem dX2_demandPlace_26 : decode cX2_demandPlace 26 = .ok (.invokespecial 117, 3) := by decide +kernel
theorem dX2_demandPlace_29 : decode cX2_demandPlace 29 = .ok (.athrow, 1) := by decide +kernel
theorem dX2_demandPlace_30 : decode cX2_demandPlace 30 = .ok (.return_, 1) := by decide +kernel
theorem dX2_demandMonth_0 : decode cX2_demandMonth 0 = .ok (.iload_n 0, 1) := by decide +kernel
theorem dX2_demandMonth_1 : decode cX2_demandMonth 1 = .ok (.ifCond .lt 9, 3) := by decide +kernel
theorem dX2_demandMonth_4 : decode cX2_demandMonth 4 = .ok (.iload_n 0, 1) := by decide +kernel
theorem dX2_demandMonth_5 : decode cX2_demandMonth 5 = .ok (.bipush 11, 2) := by decide +kernel
theorem dX2_demandMonth_7 : decode cX2_demandMonth 7 = .ok (.if_icmp .le 13, 3) := by decide +kernel
theorem dX2_demandMonth_10 : decode cX2_demandMonth 10 = .ok (.new 113, 3) := by decide +kernel
theorem dX2_demandMonth_13 : decode cX2_demandMonth 13 = .ok (.dup, 1) := by decide +kernel
theorem dX2_demandMonth_14 : decode cX2_demandMonth 14 = .ok (.ldc 188, 2) := by decide +kernel
theorem dX2_demandMonth_16 : decode cX2_demandMonth 16 = .ok (.invokespecial 117, 3) := by decide +kernel
theorem dX2_demandMonth_19 : decode cX2_demandMonth 19 = .ok (.athrow, 1) := by decide +kernel
theorem dX2_demandMonth_20 : decode cX2_demandMonth 20 = .ok (.return_, 1) := by decide +kernel
theorem dX2_demandCable_0 : decode cX2_demandCable 0 = .ok (.iload_n 1, 1) := by decide +kernel
theorem dX2_demandCable_1 : decode cX2_demandCable 1 = .ok (.ifCond .lt 11, 3) := by decide +kernel
theorem dX2_demandCable_4 : decode cX2_demandCable 4 = .ok (.iload_n 1, 1) := by decide +kernel
theorem dX2_demandCable_5 : decode cX2_demandCable 5 = .ok (.aload_n 0, 1) := by decide +kernel
theorem dX2_demandCable_6 : decode cX2_demandCable 6 = .ok (.getfield 20, 3) := by decide +kernel
theorem dX2_demandCable_9 : decode cX2_demandCable 9 = .ok (.if_icmp .lt 13, 3) := by decide +kernel
theorem dX2_demandCable_12 : decode cX2_demandCable 12 = .ok (.new 190, 3) := by decide +kernel
theorem dX2_demandCable_15 : decode cX2_demandCable 15 = .ok (.dup, 1) := by decide +kernel
theorem dX2_demandCable_16 : decode cX2_demandCable 16 = .ok (.ldc 192, 2) := by decide +kernel
theorem dX2_demandCable_18 : decode cX2_demandCable 18 = .ok (.invokespecial 194, 3) := by decide +kernel
theorem dX2_demandCable_21 : decode cX2_demandCable 21 = .ok (.athrow, 1) := by decide +kernel
theorem dX2_demandCable_22 : decode cX2_demandCable 22 = .ok (.return_, 1) := by decide +kernel
set_option maxRecDepth 20000 in
theorem ggX2_demandCables_X2_demandCable : GoodIn wsX2_demandCables wsX2_demandCable := goodIn_ca (goodIn_r _ [5, 6, 7, 8, 9, 10, 11, 12, 13, 14, 15, 16, 17] (by decide +kernel) (by decide +kernel)) (goodIn_sub (fun _ h => List.mem_cons_of_mem _ (List.mem_append_right _ h)) (by decide +kernel))
set_option maxRecDepth 20000 in
theorem gX2_demandCables_X2_demandCable : GoodIn wsX2_demandCables (wsV RX2 195 RX2 yX2_demandCable wsX2_demandCable) := goodIn_app (goodIn_of _ (by decide +kernel)) ggX2_demandCables_X2_demandCable
theorem dX2_demandCables_0 : decode cX2_demandCables 0 = .ok (.aload_n 0, 1) := by decide +kernel
theorem dX2_demandCables_1 : decode cX2_demandCables 1 = .ok (.iload_n 1, 1) := by decide +kernel
theorem dX2_demandCables_2 : decode cX2_demandCables 2 = .ok (.invokevirtual 195, 3) := by decide +kernel
theorem dX2_demandCables_5 : decode cX2_demandCables 5 = .ok (.aload_n 0, 1) := by decide +kernel
theorem dX2_demandCables_6 : decode cX2_demandCables 6 = .ok (.iload_n 2, 1) := by decide +kernel
theorem dX2_demandCables_7 : decode cX2_demandCables 7 = .ok (.invokevirtual 195, 3) := by decide +kernel
theorem dX2_demandCables_10 : decode cX2_demandCables 10 = .ok (.return_, 1) := by decide +kernel
set_option maxRecDepth 20000 in
theorem ggX2_demandPoint_X2_demandCable : GoodIn wsX2_demandPoint wsX2_demandCable := goodIn_ca (goodIn_r _ [8, 1, 2, 9, 10, 11, 12, 13, 14, 15, 16, 17, 18] (by decide +kernel) (by decide +kernel)) (goodIn_sub (fun _ h => List.mem_cons_of_mem _ (List.mem_append_right _ h)) (by decide +kernel))
set_option maxRecDepth 20000 in
theorem gX2_demandPoint_X2_demandCable : GoodIn wsX2_demandPoint (wsV RX2 195 RX2 yX2_demandCable wsX2_demandCable) := goodIn_app (goodIn_of _ (by decide +kernel)) ggX2_demandPoint_X2_demandCable
theorem dX2_demandPoint_0 : decode cX2_demandPoint 0 = .ok (.aload_n 0, 1) := by decide +kernel
theorem dX2_demandPoint_1 : decode cX2_demandPoint 1 = .ok (.iload_n 1, 1) := by decide +kernel
theorem dX2_demandPoint_2 : decode cX2_demandPoint 2 = .ok (.invokevirtual 195, 3) := by decide +kernel
theorem dX2_demandPoint_5 : decode cX2_demandPoint 5 = .ok (.iload_n 2, 1) := by decide +kernel
theorem dX2_demandPoint_6 : decode cX2_demandPoint 6 = .ok (.ifCond .lt 16, 3) := by decide +kernel
theorem dX2_demandPoint_9 : decode cX2_demandPoint 9 = .ok (.iload_n 2, 1) := by decide +kernel
theorem dX2_demandPoint_10 : decode cX2_demandPoint 10 = .ok (.aload_n 0, 1) := by decide +kernel
theorem dX2_demandPoint_11 : decode cX2_demandPoint 11 = .ok (.getfield 16, 3) := by decide +kernel
theorem dX2_demandPoint_14 : decode cX2_demandPoint 14 = .ok (.iload_n 1, 1) := by decide +kernel
theorem dX2_demandPoint_15 : decode cX2_demandPoint 15 = .ok (.aaload, 1) := by decide +kernel
theorem dX2_demandPoint_16 : decode cX2_demandPoint 16 = .ok (.getfield 52, 3) := by decide +kernel
theorem dX2_demandPoint_19 : decode cX2_demandPoint 19 = .ok (.if_icmp .lt 13, 3) := by decide +kernel
theorem dX2_demandPoint_22 : decode cX2_demandPoint 22 = .ok (.new 190, 3) := by decide +kernel
theorem dX2_demandPoint_25 : decode cX2_demandPoint 25 = .ok (.dup, 1) := by decide +kernel
theorem dX2_demandPoint_26 : decode cX2_demandPoint 26 = .ok (.ldc 198, 2) := by decide +kernel
theorem dX2_demandPoint_28 : decode cX2_demandPoint 28 = .ok (.invokespecial 194, 3) := by decide +kernel
theorem dX2_demandPoint_31 : decode cX2_demandPoint 31 = .ok (.athrow, 1) := by decide +kernel
theorem dX2_demandPoint_32 : decode cX2_demandPoint 32 = .ok (.return_, 1) := by decide +kernel
set_option maxRecDepth 20000 in
theorem ggX2_demandPiece_X2_demandCable : GoodIn wsX2_demandPiece wsX2_demandCable := goodIn_ca (goodIn_r _ [8, 1, 2, 9, 15, 16, 17, 18, 19, 20, 21, 22, 23] (by decide +kernel) (by decide +kernel)) (goodIn_sub (fun _ h => List.mem_cons_of_mem _ (List.mem_append_right _ h)) (by decide +kernel))
set_option maxRecDepth 20000 in
theorem gX2_demandPiece_X2_demandCable : GoodIn wsX2_demandPiece (wsV RX2 195 RX2 yX2_demandCable wsX2_demandCable) := goodIn_app (goodIn_of _ (by decide +kernel)) ggX2_demandPiece_X2_demandCable
set_option maxRecDepth 20000 in
theorem ggX2_demandPiece_X1_pieces : GoodIn wsX2_demandPiece wsX1_pieces := goodIn_r _ [13, 14, 24, 25, 26] (by decide +kernel) (by decide +kernel)
set_option maxRecDepth 20000 in
theorem gX2_demandPiece_X1_pieces_n200 : GoodIn wsX2_demandPiece (wsX1_pieces) := ggX2_demandPiece_X1_pieces
theorem dX2_demandPiece_0 : decode cX2_demandPiece 0 = .ok (.aload_n 0, 1) := by decide +kernel
theorem dX2_demandPiece_1 : decode cX2_demandPiece 1 = .ok (.iload_n 1, 1) := by decide +kernel
theorem dX2_demandPiece_2 : decode cX2_demandPiece 2 = .ok (.invokevirtual 195, 3) := by decide +kernel
theorem dX2_demandPiece_5 : decode cX2_demandPiece 5 = .ok (.iload_n 2, 1) := by decide +kernel
theorem dX2_demandPiece_6 : decode cX2_demandPiece 6 = .ok (.ifCond .lt 16, 3) := by decide +kernel
theorem dX2_demandPiece_9 : decode cX2_demandPiece 9 = .ok (.iload_n 2, 1) := by decide +kernel
theorem dX2_demandPiece_10 : decode cX2_demandPiece 10 = .ok (.aload_n 0, 1) := by decide +kernel
theorem dX2_demandPiece_11 : decode cX2_demandPiece 11 = .ok (.getfield 16, 3) := by decide +kernel
theorem dX2_demandPiece_14 : decode cX2_demandPiece 14 = .ok (.iload_n 1, 1) := by decide +kernel
theorem dX2_demandPiece_15 : decode cX2_demandPiece 15 = .ok (.aaload, 1) := by decide +kernel
theorem dX2_demandPiece_16 : decode cX2_demandPiece 16 = .ok (.invokevirtual 200, 3) := by decide +kernel
theorem dX2_demandPiece_19 : decode cX2_demandPiece 19 = .ok (.if_icmp .lt 13, 3) := by decide +kernel
theorem dX2_demandPiece_22 : decode cX2_demandPiece 22 = .ok (.new 190, 3) := by decide +kernel
theorem dX2_demandPiece_25 : decode cX2_demandPiece 25 = .ok (.dup, 1) := by decide +kernel
theorem dX2_demandPiece_26 : decode cX2_demandPiece 26 = .ok (.ldc 203, 2) := by decide +kernel
theorem dX2_demandPiece_28 : decode cX2_demandPiece 28 = .ok (.invokespecial 194, 3) := by decide +kernel
theorem dX2_demandPiece_31 : decode cX2_demandPiece 31 = .ok (.athrow, 1) := by decide +kernel
theorem dX2_demandPiece_32 : decode cX2_demandPiece 32 = .ok (.return_, 1) := by decide +kernel
theorem dX2_demandGround_0 : decode cX2_demandGround 0 = .ok (.iload_n 1, 1) := by decide +kernel
theorem dX2_demandGround_1 : decode cX2_demandGround 1 = .ok (.ifCond .lt 11, 3) := by decide +kernel
theorem dX2_demandGround_4 : decode cX2_demandGround 4 = .ok (.iload_n 1, 1) := by decide +kernel
theorem dX2_demandGround_5 : decode cX2_demandGround 5 = .ok (.aload_n 0, 1) := by decide +kernel
theorem dX2_demandGround_6 : decode cX2_demandGround 6 = .ok (.getfield 41, 3) := by decide +kernel
theorem dX2_demandGround_9 : decode cX2_demandGround 9 = .ok (.if_icmp .lt 13, 3) := by decide +kernel
theorem dX2_demandGround_12 : decode cX2_demandGround 12 = .ok (.new 190, 3) := by decide +kernel
theorem dX2_demandGround_15 : decode cX2_demandGround 15 = .ok (.dup, 1) := by decide +kernel
theorem dX2_demandGround_16 : decode cX2_demandGround 16 = .ok (.ldc 205, 2) := by decide +kernel
theorem dX2_demandGround_18 : decode cX2_demandGround 18 = .ok (.invokespecial 194, 3) := by decide +kernel
theorem dX2_demandGround_21 : decode cX2_demandGround 21 = .ok (.athrow, 1) := by decide +kernel
theorem dX2_demandGround_22 : decode cX2_demandGround 22 = .ok (.return_, 1) := by decide +kernel
theorem dX2_pairOf_0 : decode cX2_pairOf 0 = .ok (.bipush 8, 2) := by decide +kernel
theorem dX2_pairOf_2 : decode cX2_pairOf 2 = .ok (.iload_n 0, 1) := by decide +kernel
theorem dX2_pairOf_3 : decode cX2_pairOf 3 = .ok (.iload_n 1, 1) := by decide +kernel
theorem dX2_pairOf_4 : decode cX2_pairOf 4 = .ok (.invokestatic 207, 3) := by decide +kernel
theorem dX2_pairOf_7 : decode cX2_pairOf 7 = .ok (.imul, 1) := by decide +kernel
theorem dX2_pairOf_8 : decode cX2_pairOf 8 = .ok (.iload_n 0, 1) := by decide +kernel
theorem dX2_pairOf_9 : decode cX2_pairOf 9 = .ok (.iload_n 1, 1) := by decide +kernel
theorem dX2_pairOf_10 : decode cX2_pairOf 10 = .ok (.invokestatic 212, 3) := by decide +kernel
theorem dX2_pairOf_13 : decode cX2_pairOf 13 = .ok (.iadd, 1) := by decide +kernel
theorem dX2_pairOf_14 : decode cX2_pairOf 14 = .ok (.ireturn, 1) := by decide +kernel
set_option maxRecDepth 20000 in
theorem ggX2_recount_X2_pairOf : GoodIn wsX2_recount wsX2_pairOf := goodIn_r _ [7, 8, 9, 10, 11, 12, 13, 14] (by decide +kernel) (by decide +kernel)
set_option maxRecDepth 20000 in
theorem gX2_recount_X2_pairOf : GoodIn wsX2_recount (va_wsS RX2 96 yX2_pairOf wsX2_pairOf) := goodIn_app (goodIn_of _ (by decide +kernel)) ggX2_recount_X2_pairOf
set_option maxRecDepth 20000 in
theorem ggX2_recount_X2_countCrossings : GoodIn wsX2_recount wsX2_countCrossings := goodIn_r _ [17, 18, 19, 20, 21, 22, 23, 24, 25, 26, 27, 28, 29, 30, 31, 9, 10, 11, 32, 33, 34, 35, 36, 37, 38, 39, 40, 41, 13, 14, 42, 43, 44, 45, 46, 47, 48, 49, 50, 51, 52, 53, 54, 55, 56, 57, 58, 59, 60, 61, 62, 63, 64, 65, 66, 67, 68, 69, 70, 71, 81, 82, 83] (by decide +kernel) (by decide +kernel)
set_option maxRecDepth 20000 in
theorem gX2_recount_X2_countCrossings : GoodIn wsX2_recount (va_wsS RX2 99 yX2_countCrossings wsX2_countCrossings) := goodIn_app (goodIn_of _ (by decide +kernel)) ggX2_recount_X2_countCrossings
theorem dX2_recount_0 : decode cX2_recount 0 = .ok (.iload_n 1, 1) := by decide +kernel
theorem dX2_recount_1 : decode cX2_recount 1 = .ok (.iload_n 2, 1) := by decide +kernel
theorem dX2_recount_2 : decode cX2_recount 2 = .ok (.invokestatic 96, 3) := by decide +kernel
theorem dX2_recount_5 : decode cX2_recount 5 = .ok (.istore_n 3, 1) := by decide +kernel
theorem dX2_recount_6 : decode cX2_recount 6 = .ok (.aload_n 0, 1) := by decide +kernel
theorem dX2_recount_7 : decode cX2_recount 7 = .ok (.getfield 24, 3) := by decide +kernel
theorem dX2_recount_10 : decode cX2_recount 10 = .ok (.iload_n 3, 1) := by decide +kernel
theorem dX2_recount_11 : decode cX2_recount 11 = .ok (.aload_n 0, 1) := by decide +kernel
theorem dX2_recount_12 : decode cX2_recount 12 = .ok (.getfield 16, 3) := by decide +kernel
theorem dX2_recount_15 : decode cX2_recount 15 = .ok (.iload_n 1, 1) := by decide +kernel
theorem dX2_recount_16 : decode cX2_recount 16 = .ok (.aaload, 1) := by decide +kernel
theorem dX2_recount_17 : decode cX2_recount 17 = .ok (.aload_n 0, 1) := by decide +kernel
theorem dX2_recount_18 : decode cX2_recount 18 = .ok (.getfield 16, 3) := by decide +kernel
theorem dX2_recount_21 : decode cX2_recount 21 = .ok (.iload_n 2, 1) := by decide +kernel
theorem dX2_recount_22 : decode cX2_recount 22 = .ok (.aaload, 1) := by decide +kernel
theorem dX2_recount_23 : decode cX2_recount 23 = .ok (.iconst 0, 1) := by decide +kernel
theorem dX2_recount_24 : decode cX2_recount 24 = .ok (.invokestatic 99, 3) := by decide +kernel
theorem dX2_recount_27 : decode cX2_recount 27 = .ok (.iastore, 1) := by decide +kernel
theorem dX2_recount_28 : decode cX2_recount 28 = .ok (.aload_n 0, 1) := by decide +kernel
theorem dX2_recount_29 : decode cX2_recount 29 = .ok (.getfield 28, 3) := by decide +kernel
theorem dX2_recount_32 : decode cX2_recount 32 = .ok (.iload_n 3, 1) := by decide +kernel
theorem dX2_recount_33 : decode cX2_recount 33 = .ok (.aload_n 0, 1) := by decide +kernel
theorem dX2_recount_34 : decode cX2_recount 34 = .ok (.getfield 16, 3) := by decide +kernel
theorem dX2_recount_37 : decode cX2_recount 37 = .ok (.iload_n 1, 1) := by decide +kernel
theorem dX2_recount_38 : decode cX2_recount 38 = .ok (.aaload, 1) := by decide +kernel
theorem dX2_recount_39 : decode cX2_recount 39 = .ok (.aload_n 0, 1) := by decide +kernel
theorem dX2_recount_40 : decode cX2_recount 40 = .ok (.getfield 16, 3) := by decide +kernel
theorem dX2_recount_43 : decode cX2_recount 43 = .ok (.iload_n 2, 1) := by decide +kernel
theorem dX2_recount_44 : decode cX2_recount 44 = .ok (.aaload, 1) := by decide +kernel
theorem dX2_recount_45 : decode cX2_recount 45 = .ok (.iconst 1, 1) := by decide +kernel
theorem dX2_recount_46 : decode cX2_recount 46 = .ok (.invokestatic 99, 3) := by decide +kernel
theorem dX2_recount_49 : decode cX2_recount 49 = .ok (.iastore, 1) := by decide +kernel
theorem dX2_recount_50 : decode cX2_recount 50 = .ok (.return_, 1) := by decide +kernel
set_option maxRecDepth 20000 in
theorem ggX2_countCrossings_X1_pieces : GoodIn wsX2_countCrossings wsX1_pieces := goodIn_r _ [4, 5, 60, 61, 62] (by decide +kernel) (by decide +kernel)
set_option maxRecDepth 20000 in
theorem gX2_countCrossings_X1_pieces_n200 : GoodIn wsX2_countCrossings (wsX1_pieces) := ggX2_countCrossings_X1_pieces
set_option maxRecDepth 20000 in
theorem ggX2_countCrossings_X1_pieceCrosses : GoodIn wsX2_countCrossings wsX1_pieceCrosses := goodIn_r _ [8, 9, 10, 11, 2, 12, 13, 14, 15, 16, 17, 18, 19, 20, 21, 22, 23, 24, 25, 26, 27, 28, 29, 30, 31, 32, 33, 34, 35, 36, 37, 38, 39, 40, 41, 42, 43, 44, 45, 46, 47, 48, 49, 50, 51, 52, 53, 60, 61, 62] (by decide +kernel) (by decide +kernel)
set_option maxRecDepth 20000 in
theorem gX2_countCrossings_X1_pieceCrosses_n215 : GoodIn wsX2_countCrossings (wsX1_pieceCrosses) := ggX2_countCrossings_X1_pieceCrosses
set_option maxRecDepth 20000 in
theorem ggX2_countCrossings_X1_pieceIsSteepTo : GoodIn wsX2_countCrossings wsX1_pieceIsSteepTo := goodIn_r _ [56, 57, 58, 16, 59, 46, 47, 48, 2, 49, 13, 50, 51, 52, 53, 22, 60, 61, 62] (by decide +kernel) (by decide +kernel)
set_option maxRecDepth 20000 in
theorem gX2_countCrossings_X1_pieceIsSteepTo_n219 : GoodIn wsX2_countCrossings (wsX1_pieceIsSteepTo) := ggX2_countCrossings_X1_pieceIsSteepTo
theorem dX2_countCrossings_0 : decode cX2_countCrossings 0 = .ok (.iconst 0, 1) := by decide +kernel
theorem dX2_countCrossings_1 : decode cX2_countCrossings 1 = .ok (.istore_n 3, 1) := by decide +kernel
theorem dX2_countCrossings_2 : decode cX2_countCrossings 2 = .ok (.iconst 0, 1) := by decide +kernel
theorem dX2_countCrossings_3 : decode cX2_countCrossings 3 = .ok (.istore 4, 2) := by decide +kernel
theorem dX2_countCrossings_5 : decode cX2_countCrossings 5 = .ok (.iload 4, 2) := by decide +kernel
theorem dX2_countCrossings_7 : decode cX2_countCrossings 7 = .ok (.aload_n 0, 1) := by decide +kernel
theorem dX2_countCrossings_8 : decode cX2_countCrossings 8 = .ok (.invokevirtual 200, 3) := by decide +kernel
theorem dX2_countCrossings_11 : decode cX2_countCrossings 11 = .ok (.if_icmp .ge 58, 3) := by decide +kernel
theorem dX2_countCrossings_14 : decode cX2_countCrossings 14 = .ok (.iconst 0, 1) := by decide +kernel
theorem dX2_countCrossings_15 : decode cX2_countCrossings 15 = .ok (.istore 5, 2) := by decide +kernel
theorem dX2_countCrossings_17 : decode cX2_countCrossings 17 = .ok (.iload 5, 2) := by decide +kernel
theorem dX2_countCrossings_19 : decode cX2_countCrossings 19 = .ok (.aload_n 1, 1) := by decide +kernel
theorem dX2_countCrossings_20 : decode cX2_countCrossings 20 = .ok (.invokevirtual 200, 3) := by decide +kernel
theorem dX2_countCrossings_23 : decode cX2_countCrossings 23 = .ok (.if_icmp .ge 40, 3) := by decide +kernel
theorem dX2_countCrossings_26 : decode cX2_countCrossings 26 = .ok (.aload_n 0, 1) := by decide +kernel
theorem dX2_countCrossings_27 : decode cX2_countCrossings 27 = .ok (.iload 4, 2) := by decide +kernel
theorem dX2_countCrossings_29 : decode cX2_countCrossings 29 = .ok (.aload_n 1, 1) := by decide +kernel
theorem dX2_countCrossings_30 : decode cX2_countCrossings 30 = .ok (.iload 5, 2) := by decide +kernel
theorem dX2_countCrossings_32 : decode cX2_countCrossings 32 = .ok (.invokevirtual 215, 3) := by decide +kernel
theorem dX2_countCrossings_35 : decode cX2_countCrossings 35 = .ok (.ifCond .eq 22, 3) := by decide +kernel
theorem dX2_countCrossings_38 : decode cX2_countCrossings 38 = .ok (.iload_n 2, 1) := by decide +kernel
theorem dX2_countCrossings_39 : decode cX2_countCrossings 39 = .ok (.ifCond .eq 15, 3) := by decide +kernel
theorem dX2_countCrossings_42 : decode cX2_countCrossings 42 = .ok (.aload_n 0, 1) := by decide +kernel
theorem dX2_countCrossings_43 : decode cX2_countCrossings 43 = .ok (.iload 4, 2) := by decide +kernel
theorem dX2_countCrossings_45 : decode cX2_countCrossings 45 = .ok (.aload_n 1, 1) := by decide +kernel
theorem dX2_countCrossings_46 : decode cX2_countCrossings 46 = .ok (.iload 5, 2) := by decide +kernel
theorem dX2_countCrossings_48 : decode cX2_countCrossings 48 = .ok (.invokevirtual 219, 3) := by decide +kernel
theorem dX2_countCrossings_51 : decode cX2_countCrossings 51 = .ok (.ifCond .eq 6, 3) := by decide +kernel
theorem dX2_countCrossings_54 : decode cX2_countCrossings 54 = .ok (.iinc 3 1, 3) := by decide +kernel
theorem dX2_countCrossings_57 : decode cX2_countCrossings 57 = .ok (.iinc 5 1, 3) := by decide +kernel
theorem dX2_countCrossings_60 : decode cX2_countCrossings 60 = .ok (.goto (-43), 3) := by decide +kernel
theorem dX2_countCrossings_63 : decode cX2_countCrossings 63 = .ok (.iinc 4 1, 3) := by decide +kernel
theorem dX2_countCrossings_66 : decode cX2_countCrossings 66 = .ok (.goto (-61), 3) := by decide +kernel
theorem dX2_countCrossings_69 : decode cX2_countCrossings 69 = .ok (.iload_n 3, 1) := by decide +kernel
theorem dX2_countCrossings_70 : decode cX2_countCrossings 70 = .ok (.ireturn, 1) := by decide +kernel
set_option maxRecDepth 20000 in
theorem ggX2_crossWell_X2_pairOf : GoodIn wsX2_crossWell wsX2_pairOf := goodIn_r _ [6, 7, 8, 9, 10, 11, 12, 13] (by decide +kernel) (by decide +kernel)
set_option maxRecDepth 20000 in
theorem gX2_crossWell_X2_pairOf : GoodIn wsX2_crossWell (va_wsS RX2 96 yX2_pairOf wsX2_pairOf) := goodIn_app (goodIn_of _ (by decide +kernel)) ggX2_crossWell_X2_pairOf
theorem dX2_crossWell_0 : decode cX2_crossWell 0 = .ok (.iload_n 1, 1) := by decide +kernel
theorem dX2_crossWell_1 : decode cX2_crossWell 1 = .ok (.iload_n 2, 1) := by decide +kernel
theorem dX2_crossWell_2 : decode cX2_crossWell 2 = .ok (.invokestatic 96, 3) := by decide +kernel
theorem dX2_crossWell_5 : decode cX2_crossWell 5 = .ok (.istore_n 3, 1) := by decide +kernel
theorem dX2_crossWell_6 : decode cX2_crossWell 6 = .ok (.aload_n 0, 1) := by decide +kernel
theorem dX2_crossWell_7 : decode cX2_crossWell 7 = .ok (.getfield 24, 3) := by decide +kernel
theorem dX2_crossWell_10 : decode cX2_crossWell 10 = .ok (.iload_n 3, 1) := by decide +kernel
theorem dX2_crossWell_11 : decode cX2_crossWell 11 = .ok (.iaload, 1) := by decide +kernel
theorem dX2_crossWell_12 : decode cX2_crossWell 12 = .ok (.ifCond .le 22, 3) := by decide +kernel
theorem dX2_crossWell_15 : decode cX2_crossWell 15 = .ok (.aload_n 0, 1) := by decide +kernel
theorem dX2_crossWell_16 : decode cX2_crossWell 16 = .ok (.getfield 28, 3) := by decide +kernel
theorem dX2_crossWell_19 : decode cX2_crossWell 19 = .ok (.iload_n 3, 1) := by decide +kernel
theorem dX2_crossWell_20 : decode cX2_crossWell 20 = .ok (.iaload, 1) := by decide +kernel
theorem dX2_crossWell_21 : decode cX2_crossWell 21 = .ok (.aload_n 0, 1) := by decide +kernel
theorem dX2_crossWell_22 : decode cX2_crossWell 22 = .ok (.getfield 24, 3) := by decide +kernel
theorem dX2_crossWell_25 : decode cX2_crossWell 25 = .ok (.iload_n 3, 1) := by decide +kernel
theorem dX2_crossWell_26 : decode cX2_crossWell 26 = .ok (.iaload, 1) := by decide +kernel
theorem dX2_crossWell_27 : decode cX2_crossWell 27 = .ok (.if_icmp .ne 7, 3) := by decide +kernel
theorem dX2_crossWell_30 : decode cX2_crossWell 30 = .ok (.iconst 1, 1) := by decide +kernel
theorem dX2_crossWell_31 : decode cX2_crossWell 31 = .ok (.goto 4, 3) := by decide +kernel
theorem dX2_crossWell_34 : decode cX2_crossWell 34 = .ok (.iconst 0, 1) := by decide +kernel
theorem dX2_crossWell_35 : decode cX2_crossWell 35 = .ok (.ireturn, 1) := by decide +kernel
set_option maxRecDepth 20000 in
theorem ggX2_dropIfNotWell_X2_pairOf : GoodIn wsX2_dropIfNotWell wsX2_pairOf := goodIn_r _ [5, 6, 7, 8, 9, 10, 11, 12] (by decide +kernel) (by decide +kernel)
set_option maxRecDepth 20000 in
theorem gX2_dropIfNotWell_X2_pairOf : GoodIn wsX2_dropIfNotWell (va_wsS RX2 96 yX2_pairOf wsX2_pairOf) := goodIn_app (goodIn_of _ (by decide +kernel)) ggX2_dropIfNotWell_X2_pairOf
set_option maxRecDepth 20000 in
theorem ggX2_dropIfNotWell_X2_crossWell : GoodIn wsX2_dropIfNotWell wsX2_crossWell := goodIn_r _ [16, 17, 18, 2, 3, 4, 5, 6, 7, 8, 9, 10, 11, 12, 19, 20, 21, 22, 23, 24, 25, 26, 27] (by decide +kernel) (by decide +kernel)
set_option maxRecDepth 20000 in
theorem gX2_dropIfNotWell_X2_crossWell : GoodIn wsX2_dropIfNotWell (wsV RX2 103 RX2 yX2_crossWell wsX2_crossWell) := goodIn_app (goodIn_of _ (by decide +kernel)) ggX2_dropIfNotWell_X2_crossWell
theorem dX2_dropIfNotWell_0 : decode cX2_dropIfNotWell 0 = .ok (.iload_n 1, 1) := by decide +kernel
theorem dX2_dropIfNotWell_1 : decode cX2_dropIfNotWell 1 = .ok (.iload_n 2, 1) := by decide +kernel
theorem dX2_dropIfNotWell_2 : decode cX2_dropIfNotWell 2 = .ok (.invokestatic 96, 3) := by decide +kernel
theorem dX2_dropIfNotWell_5 : decode cX2_dropIfNotWell 5 = .ok (.istore_n 3, 1) := by decide +kernel
theorem dX2_dropIfNotWell_6 : decode cX2_dropIfNotWell 6 = .ok (.aload_n 0, 1) := by decide +kernel
theorem dX2_dropIfNotWell_7 : decode cX2_dropIfNotWell 7 = .ok (.getfield 31, 3) := by decide +kernel
theorem dX2_dropIfNotWell_10 : decode cX2_dropIfNotWell 10 = .ok (.iload_n 3, 1) := by decide +kernel
theorem dX2_dropIfNotWell_11 : decode cX2_dropIfNotWell 11 = .ok (.baload, 1) := by decide +kernel
theorem dX2_dropIfNotWell_12 : decode cX2_dropIfNotWell 12 = .ok (.ifCond .eq 12, 3) := by decide +kernel
theorem dX2_dropIfNotWell_15 : decode cX2_dropIfNotWell 15 = .ok (.aload_n 0, 1) := by decide +kernel
theorem dX2_dropIfNotWell_16 : decode cX2_dropIfNotWell 16 = .ok (.iload_n 1, 1) := by decide +kernel
theorem dX2_dropIfNotWell_17 : decode cX2_dropIfNotWell 17 = .ok (.iload_n 2, 1) := by decide +kernel
theorem dX2_dropIfNotWell_18 : decode cX2_dropIfNotWell 18 = .ok (.invokevirtual 103, 3) := by decide +kernel
theorem dX2_dropIfNotWell_21 : decode cX2_dropIfNotWell 21 = .ok (.ifCond .eq 5, 3) := by decide +kernel
theorem dX2_dropIfNotWell_24 : decode cX2_dropIfNotWell 24 = .ok (.iconst 0, 1) := by decide +kernel
theorem dX2_dropIfNotWell_25 : decode cX2_dropIfNotWell 25 = .ok (.ireturn, 1) := by decide +kernel
theorem dX2_dropIfNotWell_26 : decode cX2_dropIfNotWell 26 = .ok (.aload_n 0, 1) := by decide +kernel
theorem dX2_dropIfNotWell_27 : decode cX2_dropIfNotWell 27 = .ok (.getfield 31, 3) := by decide +kernel
theorem dX2_dropIfNotWell_30 : decode cX2_dropIfNotWell 30 = .ok (.iload_n 3, 1) := by decide +kernel
theorem dX2_dropIfNotWell_31 : decode cX2_dropIfNotWell 31 = .ok (.iconst 0, 1) := by decide +kernel
theorem dX2_dropIfNotWell_32 : decode cX2_dropIfNotWell 32 = .ok (.bastore, 1) := by decide +kernel
theorem dX2_dropIfNotWell_33 : decode cX2_dropIfNotWell 33 = .ok (.iconst 1, 1) := by decide +kernel
theorem dX2_dropIfNotWell_34 : decode cX2_dropIfNotWell 34 = .ok (.ireturn, 1) := by decide +kernel
set_option maxRecDepth 20000 in
theorem ggX2_countBarePairs_X2_pairOf : GoodIn wsX2_countBarePairs wsX2_pairOf := goodIn_r _ [7, 8, 9, 10, 11, 12, 13, 14] (by decide +kernel) (by decide +kernel)
set_option maxRecDepth 20000 in
theorem gX2_countBarePairs_X2_pairOf : GoodIn wsX2_countBarePairs (va_wsS RX2 96 yX2_pairOf wsX2_pairOf) := goodIn_app (goodIn_of _ (by decide +kernel)) ggX2_countBarePairs_X2_pairOf
theorem dX2_countBarePairs_0 : decode cX2_countBarePairs 0 = .ok (.iconst 0, 1) := by decide +kernel
theorem dX2_countBarePairs_1 : decode cX2_countBarePairs 1 = .ok (.istore_n 1, 1) := by decide +kernel
theorem dX2_countBarePairs_2 : decode cX2_countBarePairs 2 = .ok (.iconst 0, 1) := by decide +kernel
theorem dX2_countBarePairs_3 : decode cX2_countBarePairs 3 = .ok (.istore_n 2, 1) := by decide +kernel
theorem dX2_countBarePairs_4 : decode cX2_countBarePairs 4 = .ok (.iload_n 2, 1) := by decide +kernel
theorem dX2_countBarePairs_5 : decode cX2_countBarePairs 5 = .ok (.aload_n 0, 1) := by decide +kernel
theorem dX2_countBarePairs_6 : decode cX2_countBarePairs 6 = .ok (.getfield 20, 3) := by decide +kernel
theorem dX2_countBarePairs_9 : decode cX2_countBarePairs 9 = .ok (.if_icmp .ge 57, 3) := by decide +kernel
theorem dX2_countBarePairs_12 : decode cX2_countBarePairs 12 = .ok (.iload_n 2, 1) := by decide +kernel
theorem dX2_countBarePairs_13 : decode cX2_countBarePairs 13 = .ok (.iconst 1, 1) := by decide +kernel
theorem dX2_countBarePairs_14 : decode cX2_countBarePairs 14 = .ok (.iadd, 1) := by decide +kernel
theorem dX2_countBarePairs_15 : decode cX2_countBarePairs 15 = .ok (.istore_n 3, 1) := by decide +kernel
theorem dX2_countBarePairs_16 : decode cX2_countBarePairs 16 = .ok (.iload_n 3, 1) := by decide +kernel
theorem dX2_countBarePairs_17 : decode cX2_countBarePairs 17 = .ok (.aload_n 0, 1) := by decide +kernel
theorem dX2_countBarePairs_18 : decode cX2_countBarePairs 18 = .ok (.getfield 20, 3) := by decide +kernel
theorem dX2_countBarePairs_21 : decode cX2_countBarePairs 21 = .ok (.if_icmp .ge 39, 3) := by decide +kernel
theorem dX2_countBarePairs_24 : decode cX2_countBarePairs 24 = .ok (.iload_n 2, 1) := by decide +kernel
theorem dX2_countBarePairs_25 : decode cX2_countBarePairs 25 = .ok (.iload_n 3, 1) := by decide +kernel
theorem dX2_countBarePairs_26 : decode cX2_countBarePairs 26 = .ok (.invokestatic 96, 3) := by decide +kernel
theorem dX2_countBarePairs_29 : decode cX2_countBarePairs 29 = .ok (.istore 4, 2) := by decide +kernel
theorem dX2_countBarePairs_31 : decode cX2_countBarePairs 31 = .ok (.aload_n 0, 1) := by decide +kernel
theorem dX2_countBarePairs_32 : decode cX2_countBarePairs 32 = .ok (.getfield 24, 3) := by decide +kernel
theorem dX2_countBarePairs_35 : decode cX2_countBarePairs 35 = .ok (.iload 4, 2) := by decide +kernel
theorem dX2_countBarePairs_37 : decode cX2_countBarePairs 37 = .ok (.iaload, 1) := by decide +kernel
theorem dX2_countBarePairs_38 : decode cX2_countBarePairs 38 = .ok (.ifCond .le 16, 3) := by decide +kernel
theorem dX2_countBarePairs_41 : decode cX2_countBarePairs 41 = .ok (.aload_n 0, 1) := by decide +kernel
theorem dX2_countBarePairs_42 : decode cX2_countBarePairs 42 = .ok (.getfield 31, 3) := by decide +kernel
theorem dX2_countBarePairs_45 : decode cX2_countBarePairs 45 = .ok (.iload 4, 2) := by decide +kernel
theorem dX2_countBarePairs_47 : decode cX2_countBarePairs 47 = .ok (.baload, 1) := by decide +kernel
theorem dX2_countBarePairs_48 : decode cX2_countBarePairs 48 = .ok (.ifCond .ne 6, 3) := by decide +kernel
theorem dX2_countBarePairs_51 : decode cX2_countBarePairs 51 = .ok (.iinc 1 1, 3) := by decide +kernel
theorem dX2_countBarePairs_54 : decode cX2_countBarePairs 54 = .ok (.iinc 3 1, 3) := by decide +kernel
theorem dX2_countBarePairs_57 : decode cX2_countBarePairs 57 = .ok (.goto (-41), 3) := by decide +kernel
theorem dX2_countBarePairs_60 : decode cX2_countBarePairs 60 = .ok (.iinc 2 1, 3) := by decide +kernel
theorem dX2_countBarePairs_63 : decode cX2_countBarePairs 63 = .ok (.goto (-59), 3) := by decide +kernel
theorem dX2_countBarePairs_66 : decode cX2_countBarePairs 66 = .ok (.iload_n 1, 1) := by decide +kernel
theorem dX2_countBarePairs_67 : decode cX2_countBarePairs 67 = .ok (.ireturn, 1) := by decide +kernel
theorem dX2_bitOf_0 : decode cX2_bitOf 0 = .ok (.lconst 1, 1) := by decide +kernel
theorem dX2_bitOf_1 : decode cX2_bitOf 1 = .ok (.bipush 8, 2) := by decide +kernel
theorem dX2_bitOf_3 : decode cX2_bitOf 3 = .ok (.iload_n 0, 1) := by decide +kernel
theorem dX2_bitOf_4 : decode cX2_bitOf 4 = .ok (.imul, 1) := by decide +kernel
theorem dX2_bitOf_5 : decode cX2_bitOf 5 = .ok (.iload_n 1, 1) := by decide +kernel
theorem dX2_bitOf_6 : decode cX2_bitOf 6 = .ok (.iadd, 1) := by decide +kernel
theorem dX2_bitOf_7 : decode cX2_bitOf 7 = .ok (.lshl, 1) := by decide +kernel
theorem dX2_bitOf_8 : decode cX2_bitOf 8 = .ok (.lreturn, 1) := by decide +kernel
set_option maxRecDepth 20000 in
theorem ggX2_isIn_X2_bitOf : GoodIn wsX2_isIn wsX2_bitOf := goodIn_r _ [4] (by decide +kernel) (by decide +kernel)
set_option maxRecDepth 20000 in
theorem gX2_isIn_X2_bitOf : GoodIn wsX2_isIn (va_wsS RX2 222 yX2_bitOf wsX2_bitOf) := goodIn_app (goodIn_of _ (by decide +kernel)) ggX2_isIn_X2_bitOf
theorem dX2_isIn_0 : decode cX2_isIn 0 = .ok (.lload_n 0, 1) := by decide +kernel
theorem dX2_isIn_1 : decode cX2_isIn 1 = .ok (.iload_n 2, 1) := by decide +kernel
theorem dX2_isIn_2 : decode cX2_isIn 2 = .ok (.iload_n 3, 1) := by decide +kernel
theorem dX2_isIn_3 : decode cX2_isIn 3 = .ok (.invokestatic 222, 3) := by decide +kernel
theorem dX2_isIn_6 : decode cX2_isIn 6 = .ok (.land, 1) := by decide +kernel
theorem dX2_isIn_7 : decode cX2_isIn 7 = .ok (.lconst 0, 1) := by decide +kernel
theorem dX2_isIn_8 : decode cX2_isIn 8 = .ok (.lcmp, 1) := by decide +kernel
theorem dX2_isIn_9 : decode cX2_isIn 9 = .ok (.ifCond .eq 7, 3) := by decide +kernel
theorem dX2_isIn_12 : decode cX2_isIn 12 = .ok (.iconst 1, 1) := by decide +kernel
theorem dX2_isIn_13 : decode cX2_isIn 13 = .ok (.goto 4, 3) := by decide +kernel
theorem dX2_isIn_16 : decode cX2_isIn 16 = .ok (.iconst 0, 1) := by decide +kernel
theorem dX2_isIn_17 : decode cX2_isIn 17 = .ok (.ireturn, 1) := by decide +kernel
set_option maxRecDepth 20000 in
theorem ggX2_liftedWith_X2_bitOf : GoodIn wsX2_liftedWith wsX2_bitOf := goodIn_r _ [5] (by decide +kernel) (by decide +kernel)
set_option maxRecDepth 20000 in
theorem gX2_liftedWith_X2_bitOf : GoodIn wsX2_liftedWith (va_wsS RX2 222 yX2_bitOf wsX2_bitOf) := goodIn_app (goodIn_of _ (by decide +kernel)) ggX2_liftedWith_X2_bitOf
set_option maxRecDepth 20000 in
theorem ggX2_liftedWith_X2_lyingOn : GoodIn wsX2_liftedWith wsX2_lyingOn := goodIn_r _ [9, 10, 11, 12, 13, 14, 15, 16, 17, 18, 4, 19, 20, 21, 22, 2, 3, 5, 23, 24, 25, 26, 27, 28, 29, 30, 31, 32, 33, 34, 35, 36, 37, 38, 39, 40, 41, 42, 43, 44, 45, 46, 47, 48, 49, 50, 51, 52, 53, 54, 55, 56, 57, 58, 59, 60, 61, 62, 63, 64, 65, 66, 67, 68, 69, 70, 71, 72, 73, 74, 75, 76, 77, 78, 79, 80, 81, 82] (by decide +kernel) (by decide +kernel)
set_option maxRecDepth 20000 in
theorem gX2_liftedWith_X2_lyingOn : GoodIn wsX2_liftedWith (wsV RX2 225 RX2 yX2_lyingOn wsX2_lyingOn) := goodIn_app (goodIn_of _ (by decide +kernel)) ggX2_liftedWith_X2_lyingOn
theorem dX2_liftedWith_0 : decode cX2_liftedWith 0 = .ok (.iload_n 1, 1) := by decide +kernel
theorem dX2_liftedWith_1 : decode cX2_liftedWith 1 = .ok (.iload_n 2, 1) := by decide +kernel
theorem dX2_liftedWith_2 : decode cX2_liftedWith 2 = .ok (.invokestatic 222, 3) := by decide +kernel
theorem dX2_liftedWith_5 : decode cX2_liftedWith 5 = .ok (.lstore_n 3, 1) := by decide +kernel
theorem dX2_liftedWith_6 : decode cX2_liftedWith 6 = .ok (.iload_n 1, 1) := by decide +kernel
theorem dX2_liftedWith_7 : decode cX2_liftedWith 7 = .ok (.iconst 1, 1) := by decide +kernel
theorem dX2_liftedWith_8 : decode cX2_liftedWith 8 = .ok (.iadd, 1) := by decide +kernel
theorem dX2_liftedWith_9 : decode cX2_liftedWith 9 = .ok (.istore 5, 2) := by decide +kernel
theorem dX2_liftedWith_11 : decode cX2_liftedWith 11 = .ok (.iload 5, 2) := by decide +kernel
theorem dX2_liftedWith_13 : decode cX2_liftedWith 13 = .ok (.aload_n 0, 1) := by decide +kernel
theorem dX2_liftedWith_14 : decode cX2_liftedWith 14 = .ok (.getfield 20, 3) := by decide +kernel
theorem dX2_liftedWith_17 : decode cX2_liftedWith 17 = .ok (.if_icmp .ge 37, 3) := by decide +kernel
theorem dX2_liftedWith_20 : decode cX2_liftedWith 20 = .ok (.iload_n 1, 1) := by decide +kernel
theorem dX2_liftedWith_21 : decode cX2_liftedWith 21 = .ok (.istore 6, 2) := by decide +kernel
theorem dX2_liftedWith_23 : decode cX2_liftedWith 23 = .ok (.iload 6, 2) := by decide +kernel
theorem dX2_liftedWith_25 : decode cX2_liftedWith 25 = .ok (.iload 5, 2) := by decide +kernel
theorem dX2_liftedWith_27 : decode cX2_liftedWith 27 = .ok (.if_icmp .ge 21, 3) := by decide +kernel
theorem dX2_liftedWith_30 : decode cX2_liftedWith 30 = .ok (.lload_n 3, 1) := by decide +kernel
theorem dX2_liftedWith_31 : decode cX2_liftedWith 31 = .ok (.aload_n 0, 1) := by decide +kernel
theorem dX2_liftedWith_32 : decode cX2_liftedWith 32 = .ok (.lload_n 3, 1) := by decide +kernel
theorem dX2_liftedWith_33 : decode cX2_liftedWith 33 = .ok (.iload 6, 2) := by decide +kernel
theorem dX2_liftedWith_35 : decode cX2_liftedWith 35 = .ok (.iload 5, 2) := by decide +kernel
theorem dX2_liftedWith_37 : decode cX2_liftedWith 37 = .ok (.invokevirtual 225, 3) := by decide +kernel
theorem dX2_liftedWith_40 : decode cX2_liftedWith 40 = .ok (.lor, 1) := by decide +kernel
theorem dX2_liftedWith_41 : decode cX2_liftedWith 41 = .ok (.lstore_n 3, 1) := by decide +kernel
theorem dX2_liftedWith_42 : decode cX2_liftedWith 42 = .ok (.iinc 6 1, 3) := by decide +kernel
theorem dX2_liftedWith_45 : decode cX2_liftedWith 45 = .ok (.goto (-22), 3) := by decide +kernel
theorem dX2_liftedWith_48 : decode cX2_liftedWith 48 = .ok (.iinc 5 1, 3) := by decide +kernel
theorem dX2_liftedWith_51 : decode cX2_liftedWith 51 = .ok (.goto (-40), 3) := by decide +kernel
theorem dX2_liftedWith_54 : decode cX2_liftedWith 54 = .ok (.lload_n 3, 1) := by decide +kernel
theorem dX2_liftedWith_55 : decode cX2_liftedWith 55 = .ok (.lreturn, 1) := by decide +kernel
set_option maxRecDepth 20000 in
theorem ggX2_lyingOn_X1_pieces : GoodIn wsX2_lyingOn wsX1_pieces := goodIn_r _ [5, 6, 75, 76, 77] (by decide +kernel) (by decide +kernel)
set_option maxRecDepth 20000 in
theorem gX2_lyingOn_X1_pieces_n200 : GoodIn wsX2_lyingOn (wsX1_pieces) := ggX2_lyingOn_X1_pieces
set_option maxRecDepth 20000 in
theorem ggX2_lyingOn_X2_liesOnLifted : GoodIn wsX2_lyingOn wsX2_liesOnLifted := goodIn_r _ [11, 1, 2, 3, 4, 5, 6, 12, 13, 10, 14, 15, 16, 17, 18, 19, 20, 21, 22, 23, 24, 25, 26, 27, 28, 29, 30, 31, 32, 33, 34, 35, 36, 37, 38, 39, 40, 41, 42, 43, 44, 45, 46, 47, 48, 49, 50, 51, 52, 53, 54, 55, 56, 57, 58, 59, 60, 61, 62, 63, 64, 65, 66, 67, 68, 69, 70, 71, 72, 73, 74, 75, 76, 77] (by decide +kernel) (by decide +kernel)
set_option maxRecDepth 20000 in
theorem gX2_lyingOn_X2_liesOnLifted : GoodIn wsX2_lyingOn (wsV RX2 229 RX2 yX2_liesOnLifted wsX2_liesOnLifted) := goodIn_app (goodIn_of _ (by decide +kernel)) ggX2_lyingOn_X2_liesOnLifted
set_option maxRecDepth 20000 in
theorem ggX2_lyingOn_X2_bitOf : GoodIn wsX2_lyingOn wsX2_bitOf := goodIn_r _ [17] (by decide +kernel) (by decide +kernel)
set_option maxRecDepth 20000 in
theorem gX2_lyingOn_X2_bitOf : GoodIn wsX2_lyingOn (va_wsS RX2 222 yX2_bitOf wsX2_bitOf) := goodIn_app (goodIn_of _ (by decide +kernel)) ggX2_lyingOn_X2_bitOf
theorem dX2_lyingOn_0 : decode cX2_lyingOn 0 = .ok (.lconst 0, 1) := by decide +kernel
theorem dX2_lyingOn_1 : decode cX2_lyingOn 1 = .ok (.lstore 5, 2) := by decide +kernel
theorem dX2_lyingOn_3 : decode cX2_lyingOn 3 = .ok (.iconst 0, 1) := by decide +kernel
theorem dX2_lyingOn_4 : decode cX2_lyingOn 4 = .ok (.istore 7, 2) := by decide +kernel
theorem dX2_lyingOn_6 : decode cX2_lyingOn 6 = .ok (.iload 7, 2) := by decide +kernel
theorem dX2_lyingOn_8 : decode cX2_lyingOn 8 = .ok (.aload_n 0, 1) := by decide +kernel
theorem dX2_lyingOn_9 : decode cX2_lyingOn 9 = .ok (.getfield 16, 3) := by decide +kernel
theorem dX2_lyingOn_12 : decode cX2_lyingOn 12 = .ok (.iload 4, 2) := by decide +kernel
theorem dX2_lyingOn_14 : decode cX2_lyingOn 14 = .ok (.aaload, 1) := by decide +kernel
theorem dX2_lyingOn_15 : decode cX2_lyingOn 15 = .ok (.invokevirtual 200, 3) := by decide +kernel
theorem dX2_lyingOn_18 : decode cX2_lyingOn 18 = .ok (.if_icmp .ge 34, 3) := by decide +kernel
theorem dX2_lyingOn_21 : decode cX2_lyingOn 21 = .ok (.aload_n 0, 1) := by decide +kernel
theorem dX2_lyingOn_22 : decode cX2_lyingOn 22 = .ok (.lload_n 1, 1) := by decide +kernel
theorem dX2_lyingOn_23 : decode cX2_lyingOn 23 = .ok (.iload_n 3, 1) := by decide +kernel
theorem dX2_lyingOn_24 : decode cX2_lyingOn 24 = .ok (.iload 4, 2) := by decide +kernel
theorem dX2_lyingOn_26 : decode cX2_lyingOn 26 = .ok (.iload 7, 2) := by decide +kernel
theorem dX2_lyingOn_28 : decode cX2_lyingOn 28 = .ok (.invokevirtual 229, 3) := by decide +kernel
theorem dX2_lyingOn_31 : decode cX2_lyingOn 31 = .ok (.ifCond .eq 15, 3) := by decide +kernel
theorem dX2_lyingOn_34 : decode cX2_lyingOn 34 = .ok (.lload 5, 2) := by decide +kernel
theorem dX2_lyingOn_36 : decode cX2_lyingOn 36 = .ok (.iload 4, 2) := by decide +kernel
theorem dX2_lyingOn_38 : decode cX2_lyingOn 38 = .ok (.iload 7, 2) := by decide +kernel
theorem dX2_lyingOn_40 : decode cX2_lyingOn 40 = .ok (.invokestatic 222, 3) := by decide +kernel
theorem dX2_lyingOn_43 : decode cX2_lyingOn 43 = .ok (.lor, 1) := by decide +kernel
theorem dX2_lyingOn_44 : decode cX2_lyingOn 44 = .ok (.lstore 5, 2) := by decide +kernel
theorem dX2_lyingOn_46 : decode cX2_lyingOn 46 = .ok (.iinc 7 1, 3) := by decide +kernel
theorem dX2_lyingOn_49 : decode cX2_lyingOn 49 = .ok (.goto (-43), 3) := by decide +kernel
theorem dX2_lyingOn_52 : decode cX2_lyingOn 52 = .ok (.lload 5, 2) := by decide +kernel
theorem dX2_lyingOn_54 : decode cX2_lyingOn 54 = .ok (.lreturn, 1) := by decide +kernel
set_option maxRecDepth 20000 in
theorem ggX2_liesOnLifted_X1_pieces : GoodIn wsX2_liesOnLifted wsX1_pieces := goodIn_r _ [5, 6, 71, 72, 73] (by decide +kernel) (by decide +kernel)
set_option maxRecDepth 20000 in
theorem gX2_liesOnLifted_X1_pieces_n200 : GoodIn wsX2_liesOnLifted (wsX1_pieces) := ggX2_liesOnLifted_X1_pieces
set_option maxRecDepth 20000 in
theorem ggX2_liesOnLifted_X2_isIn : GoodIn wsX2_liesOnLifted wsX2_isIn := goodIn_r _ [10, 11, 12, 9, 13] (by decide +kernel) (by decide +kernel)
set_option maxRecDepth 20000 in
theorem gX2_liesOnLifted_X2_isIn : GoodIn wsX2_liesOnLifted (va_wsS RX2 233 yX2_isIn wsX2_isIn) := goodIn_app (goodIn_of _ (by decide +kernel)) ggX2_liesOnLifted_X2_isIn
set_option maxRecDepth 20000 in
theorem ggX2_liesOnLifted_X1_pieceCrosses : GoodIn wsX2_liesOnLifted wsX1_pieceCrosses := goodIn_r _ [16, 17, 18, 19, 3, 20, 21, 22, 23, 24, 25, 26, 27, 28, 29, 30, 31, 32, 33, 34, 35, 36, 37, 38, 39, 40, 41, 42, 43, 44, 45, 46, 47, 48, 49, 50, 51, 52, 53, 54, 55, 56, 57, 58, 59, 60, 61, 71, 72, 73] (by decide +kernel) (by decide +kernel)
set_option maxRecDepth 20000 in
theorem gX2_liesOnLifted_X1_pieceCrosses_n215 : GoodIn wsX2_liesOnLifted (wsX1_pieceCrosses) := ggX2_liesOnLifted_X1_pieceCrosses
theorem dX2_liesOnLifted_0 : decode cX2_liesOnLifted 0 = .ok (.iconst 0, 1) := by decide +kernel
theorem dX2_liesOnLifted_1 : decode cX2_liesOnLifted 1 = .ok (.istore 6, 2) := by decide +kernel
theorem dX2_liesOnLifted_3 : decode cX2_liesOnLifted 3 = .ok (.iload 6, 2) := by decide +kernel
theorem dX2_liesOnLifted_5 : decode cX2_liesOnLifted 5 = .ok (.aload_n 0, 1) := by decide +kernel
theorem dX2_liesOnLifted_6 : decode cX2_liesOnLifted 6 = .ok (.getfield 16, 3) := by decide +kernel
theorem dX2_liesOnLifted_9 : decode cX2_liesOnLifted 9 = .ok (.iload_n 3, 1) := by decide +kernel
theorem dX2_liesOnLifted_10 : decode cX2_liesOnLifted 10 = .ok (.aaload, 1) := by decide +kernel
theorem dX2_liesOnLifted_11 : decode cX2_liesOnLifted 11 = .ok (.invokevirtual 200, 3) := by decide +kernel
theorem dX2_liesOnLifted_14 : decode cX2_liesOnLifted 14 = .ok (.if_icmp .ge 44, 3) := by decide +kernel
theorem dX2_liesOnLifted_17 : decode cX2_liesOnLifted 17 = .ok (.lload_n 1, 1) := by decide +kernel
theorem dX2_liesOnLifted_18 : decode cX2_liesOnLifted 18 = .ok (.iload_n 3, 1) := by decide +kernel
theorem dX2_liesOnLifted_19 : decode cX2_liesOnLifted 19 = .ok (.iload 6, 2) := by decide +kernel
theorem dX2_liesOnLifted_21 : decode cX2_liesOnLifted 21 = .ok (.invokestatic 233, 3) := by decide +kernel
theorem dX2_liesOnLifted_24 : decode cX2_liesOnLifted 24 = .ok (.ifCond .eq 28, 3) := by decide +kernel
theorem dX2_liesOnLifted_27 : decode cX2_liesOnLifted 27 = .ok (.aload_n 0, 1) := by decide +kernel
theorem dX2_liesOnLifted_28 : decode cX2_liesOnLifted 28 = .ok (.getfield 16, 3) := by decide +kernel
theorem dX2_liesOnLifted_31 : decode cX2_liesOnLifted 31 = .ok (.iload_n 3, 1) := by decide +kernel
theorem dX2_liesOnLifted_32 : decode cX2_liesOnLifted 32 = .ok (.aaload, 1) := by decide +kernel
theorem dX2_liesOnLifted_33 : decode cX2_liesOnLifted 33 = .ok (.iload 6, 2) := by decide +kernel
theorem dX2_liesOnLifted_35 : decode cX2_liesOnLifted 35 = .ok (.aload_n 0, 1) := by decide +kernel
theorem dX2_liesOnLifted_36 : decode cX2_liesOnLifted 36 = .ok (.getfield 16, 3) := by decide +kernel
theorem dX2_liesOnLifted_39 : decode cX2_liesOnLifted 39 = .ok (.iload 4, 2) := by decide +kernel
theorem dX2_liesOnLifted_41 : decode cX2_liesOnLifted 41 = .ok (.aaload, 1) := by decide +kernel
theorem dX2_liesOnLifted_42 : decode cX2_liesOnLifted 42 = .ok (.iload 5, 2) := by decide +kernel
theorem dX2_liesOnLifted_44 : decode cX2_liesOnLifted 44 = .ok (.invokevirtual 215, 3) := by decide +kernel
theorem dX2_liesOnLifted_47 : decode cX2_liesOnLifted 47 = .ok (.ifCond .eq 5, 3) := by decide +kernel
theorem dX2_liesOnLifted_50 : decode cX2_liesOnLifted 50 = .ok (.iconst 1, 1) := by decide +kernel
theorem dX2_liesOnLifted_51 : decode cX2_liesOnLifted 51 = .ok (.ireturn, 1) := by decide +kernel
theorem dX2_liesOnLifted_52 : decode cX2_liesOnLifted 52 = .ok (.iinc 6 1, 3) := by decide +kernel
theorem dX2_liesOnLifted_55 : decode cX2_liesOnLifted 55 = .ok (.goto (-52), 3) := by decide +kernel
theorem dX2_liesOnLifted_58 : decode cX2_liesOnLifted 58 = .ok (.iconst 0, 1) := by decide +kernel
theorem dX2_liesOnLifted_59 : decode cX2_liesOnLifted 59 = .ok (.ireturn, 1) := by decide +kernel
set_option maxRecDepth 20000 in
theorem ggX2_isPossible_X2_pairOf : GoodIn wsX2_isPossible wsX2_pairOf := goodIn_r _ [6, 7, 8, 9, 10, 11, 12, 13] (by decide +kernel) (by decide +kernel)
set_option maxRecDepth 20000 in
theorem gX2_isPossible_X2_pairOf : GoodIn wsX2_isPossible (va_wsS RX2 96 yX2_pairOf wsX2_pairOf) := goodIn_app (goodIn_of _ (by decide +kernel)) ggX2_isPossible_X2_pairOf
set_option maxRecDepth 20000 in
theorem ggX2_isPossible_X2_lyingOn : GoodIn wsX2_isPossible wsX2_lyingOn := goodIn_r _ [17, 18, 19, 20, 21, 22, 23, 24, 25, 26, 5, 27, 28, 29, 30, 31, 32, 33, 34, 35, 36, 37, 38, 39, 40, 41, 42, 8, 9, 10, 43, 44, 45, 46, 47, 48, 49, 50, 51, 52, 12, 13, 53, 54, 55, 56, 57, 58, 59, 60, 61, 62, 63, 64, 65, 66, 67, 68, 69, 70, 71, 72, 73, 74, 75, 76, 77, 78, 79, 80, 81, 82, 83, 84, 85, 86, 87, 88] (by decide +kernel) (by decide +kernel)
set_option maxRecDepth 20000 in
theorem gX2_isPossible_X2_lyingOn : GoodIn wsX2_isPossible (wsV RX2 225 RX2 yX2_lyingOn wsX2_lyingOn) := goodIn_app (goodIn_of _ (by decide +kernel)) ggX2_isPossible_X2_lyingOn
theorem dX2_isPossible_0 : decode cX2_isPossible 0 = .ok (.iconst 0, 1) := by decide +kernel
theorem dX2_isPossible_1 : decode cX2_isPossible 1 = .ok (.istore_n 3, 1) := by decide +kernel
theorem dX2_isPossible_2 : decode cX2_isPossible 2 = .ok (.iload_n 3, 1) := by decide +kernel
theorem dX2_isPossible_3 : decode cX2_isPossible 3 = .ok (.aload_n 0, 1) := by decide +kernel
theorem dX2_isPossible_4 : decode cX2_isPossible 4 = .ok (.getfield 20, 3) := by decide +kernel
theorem dX2_isPossible_7 : decode cX2_isPossible 7 = .ok (.if_icmp .ge 53, 3) := by decide +kernel
theorem dX2_isPossible_10 : decode cX2_isPossible 10 = .ok (.iconst 0, 1) := by decide +kernel
theorem dX2_isPossible_11 : decode cX2_isPossible 11 = .ok (.istore 4, 2) := by decide +kernel
theorem dX2_isPossible_13 : decode cX2_isPossible 13 = .ok (.iload 4, 2) := by decide +kernel
theorem dX2_isPossible_15 : decode cX2_isPossible 15 = .ok (.iload_n 3, 1) := by decide +kernel
theorem dX2_isPossible_16 : decode cX2_isPossible 16 = .ok (.if_icmp .ge 38, 3) := by decide +kernel
theorem dX2_isPossible_19 : decode cX2_isPossible 19 = .ok (.aload_n 0, 1) := by decide +kernel
theorem dX2_isPossible_20 : decode cX2_isPossible 20 = .ok (.getfield 31, 3) := by decide +kernel
theorem dX2_isPossible_23 : decode cX2_isPossible 23 = .ok (.iload 4, 2) := by decide +kernel
theorem dX2_isPossible_25 : decode cX2_isPossible 25 = .ok (.iload_n 3, 1) := by decide +kernel
theorem dX2_isPossible_26 : decode cX2_isPossible 26 = .ok (.invokestatic 96, 3) := by decide +kernel
theorem dX2_isPossible_29 : decode cX2_isPossible 29 = .ok (.baload, 1) := by decide +kernel
theorem dX2_isPossible_30 : decode cX2_isPossible 30 = .ok (.ifCond .ne 18, 3) := by decide +kernel
theorem dX2_isPossible_33 : decode cX2_isPossible 33 = .ok (.aload_n 0, 1) := by decide +kernel
theorem dX2_isPossible_34 : decode cX2_isPossible 34 = .ok (.lload_n 1, 1) := by decide +kernel
theorem dX2_isPossible_35 : decode cX2_isPossible 35 = .ok (.iload 4, 2) := by decide +kernel
theorem dX2_isPossible_37 : decode cX2_isPossible 37 = .ok (.iload_n 3, 1) := by decide +kernel
theorem dX2_isPossible_38 : decode cX2_isPossible 38 = .ok (.invokevirtual 225, 3) := by decide +kernel
theorem dX2_isPossible_41 : decode cX2_isPossible 41 = .ok (.lconst 0, 1) := by decide +kernel
theorem dX2_isPossible_42 : decode cX2_isPossible 42 = .ok (.lcmp, 1) := by decide +kernel
theorem dX2_isPossible_43 : decode cX2_isPossible 43 = .ok (.ifCond .eq 5, 3) := by decide +kernel
theorem dX2_isPossible_46 : decode cX2_isPossible 46 = .ok (.iconst 0, 1) := by decide +kernel
theorem dX2_isPossible_47 : decode cX2_isPossible 47 = .ok (.ireturn, 1) := by decide +kernel
theorem dX2_isPossible_48 : decode cX2_isPossible 48 = .ok (.iinc 4 1, 3) := by decide +kernel
theorem dX2_isPossible_51 : decode cX2_isPossible 51 = .ok (.goto (-38), 3) := by decide +kernel
theorem dX2_isPossible_54 : decode cX2_isPossible 54 = .ok (.iinc 3 1, 3) := by decide +kernel
theorem dX2_isPossible_57 : decode cX2_isPossible 57 = .ok (.goto (-55), 3) := by decide +kernel
theorem dX2_isPossible_60 : decode cX2_isPossible 60 = .ok (.iconst 1, 1) := by decide +kernel
theorem dX2_isPossible_61 : decode cX2_isPossible 61 = .ok (.ireturn, 1) := by decide +kernel
set_option maxRecDepth 20000 in
theorem ggX2_costOf_J13_bitCount_95d88 : GoodIn wsX2_costOf wsJ13_bitCount_95d88 := goodIn_r _ [6, 7, 8, 9] (by decide +kernel) (by decide +kernel)
set_option maxRecDepth 20000 in
theorem gX2_costOf_J13_bitCount_95d88 : GoodIn wsX2_costOf (va_wsS RX2 163 yJ13_bitCount_95d88 wsJ13_bitCount_95d88) := goodIn_app (goodIn_of _ (by decide +kernel)) ggX2_costOf_J13_bitCount_95d88
set_option maxRecDepth 20000 in
theorem ggX2_costOf_X2_isOwed : GoodIn wsX2_costOf wsX2_isOwed := goodIn_r _ [14, 15, 16, 17, 18, 19, 20, 21, 22, 23, 13, 24, 25, 26, 27, 28, 29, 30, 31, 32, 33, 34, 35, 36, 37, 38, 39, 40, 41, 42, 43, 44, 45, 46, 47, 48, 49, 50, 51, 52, 53, 54, 55, 56, 57, 58, 59, 60, 61, 62, 63, 64, 65, 66, 67, 68, 69, 70, 71, 72, 73, 74, 75, 76, 77, 78, 79, 80, 81, 82, 83, 84, 85, 100, 101, 102, 103, 104, 105, 106, 107, 108, 91, 92, 93, 94, 95, 96, 97, 98, 99, 109, 110, 111] (by decide +kernel) (by decide +kernel)
set_option maxRecDepth 20000 in
theorem gX2_costOf_X2_isOwed : GoodIn wsX2_costOf (wsV RX2 237 RX2 yX2_isOwed wsX2_isOwed) := goodIn_app (goodIn_of _ (by decide +kernel)) ggX2_costOf_X2_isOwed
set_option maxRecDepth 20000 in
theorem ggX2_costOf_X0_price : GoodIn wsX2_costOf wsX0_price := goodIn_r _ [88, 89, 90, 100, 101, 102, 103, 104, 105, 106, 107, 108] (by decide +kernel) (by decide +kernel)
set_option maxRecDepth 20000 in
theorem gX2_costOf_X0_price_n145 : GoodIn wsX2_costOf (wsX0_price) := ggX2_costOf_X0_price
theorem dX2_costOf_0 : decode cX2_costOf 0 = .ok (.bipush 10, 2) := by decide +kernel
theorem dX2_costOf_2 : decode cX2_costOf 2 = .ok (.lload_n 1, 1) := by decide +kernel
theorem dX2_costOf_3 : decode cX2_costOf 3 = .ok (.invokestatic 163, 3) := by decide +kernel
theorem dX2_costOf_6 : decode cX2_costOf 6 = .ok (.imul, 1) := by decide +kernel
theorem dX2_costOf_7 : decode cX2_costOf 7 = .ok (.istore 4, 2) := by decide +kernel
theorem dX2_costOf_9 : decode cX2_costOf 9 = .ok (.iconst 0, 1) := by decide +kernel
theorem dX2_costOf_10 : decode cX2_costOf 10 = .ok (.istore 5, 2) := by decide +kernel
theorem dX2_costOf_12 : decode cX2_costOf 12 = .ok (.iload 5, 2) := by decide +kernel
theorem dX2_costOf_14 : decode cX2_costOf 14 = .ok (.aload_n 0, 1) := by decide +kernel
theorem dX2_costOf_15 : decode cX2_costOf 15 = .ok (.getfield 41, 3) := by decide +kernel
theorem dX2_costOf_18 : decode cX2_costOf 18 = .ok (.if_icmp .ge 40, 3) := by decide +kernel
theorem dX2_costOf_21 : decode cX2_costOf 21 = .ok (.aload_n 0, 1) := by decide +kernel
theorem dX2_costOf_22 : decode cX2_costOf 22 = .ok (.lload_n 1, 1) := by decide +kernel
theorem dX2_costOf_23 : decode cX2_costOf 23 = .ok (.aload_n 0, 1) := by decide +kernel
theorem dX2_costOf_24 : decode cX2_costOf 24 = .ok (.getfield 37, 3) := by decide +kernel
theorem dX2_costOf_27 : decode cX2_costOf 27 = .ok (.iload 5, 2) := by decide +kernel
theorem dX2_costOf_29 : decode cX2_costOf 29 = .ok (.aaload, 1) := by decide +kernel
theorem dX2_costOf_30 : decode cX2_costOf 30 = .ok (.iload_n 3, 1) := by decide +kernel
theorem dX2_costOf_31 : decode cX2_costOf 31 = .ok (.invokevirtual 237, 3) := by decide +kernel
theorem dX2_costOf_34 : decode cX2_costOf 34 = .ok (.ifCond .eq 18, 3) := by decide +kernel
theorem dX2_costOf_37 : decode cX2_costOf 37 = .ok (.iload 4, 2) := by decide +kernel
theorem dX2_costOf_39 : decode cX2_costOf 39 = .ok (.aload_n 0, 1) := by decide +kernel
theorem dX2_costOf_40 : decode cX2_costOf 40 = .ok (.getfield 37, 3) := by decide +kernel
theorem dX2_costOf_43 : decode cX2_costOf 43 = .ok (.iload 5, 2) := by decide +kernel
theorem dX2_costOf_45 : decode cX2_costOf 45 = .ok (.aaload, 1) := by decide +kernel
theorem dX2_costOf_46 : decode cX2_costOf 46 = .ok (.invokevirtual 145, 3) := by decide +kernel
theorem dX2_costOf_49 : decode cX2_costOf 49 = .ok (.iadd, 1) := by decide +kernel
theorem dX2_costOf_50 : decode cX2_costOf 50 = .ok (.istore 4, 2) := by decide +kernel
theorem dX2_costOf_52 : decode cX2_costOf 52 = .ok (.iinc 5 1, 3) := by decide +kernel
theorem dX2_costOf_55 : decode cX2_costOf 55 = .ok (.goto (-43), 3) := by decide +kernel
theorem dX2_costOf_58 : decode cX2_costOf 58 = .ok (.iload 4, 2) := by decide +kernel
theorem dX2_costOf_60 : decode cX2_costOf 60 = .ok (.ireturn, 1) := by decide +kernel
set_option maxRecDepth 20000 in
theorem ggX2_payGrounds_X2_isOwed : GoodIn wsX2_payGrounds wsX2_isOwed := goodIn_r _ [7, 8, 9, 10, 11, 12, 13, 14, 15, 16, 6, 17, 18, 19, 20, 21, 22, 23, 24, 25, 26, 27, 28, 29, 30, 31, 32, 33, 34, 35, 36, 37, 38, 39, 40, 41, 42, 43, 44, 45, 46, 47, 48, 49, 50, 51, 52, 53, 54, 55, 56, 57, 58, 59, 60, 61, 62, 63, 64, 65, 66, 67, 68, 69, 70, 71, 72, 73, 74, 75, 76, 77, 78, 93, 94, 95, 96, 97, 98, 99, 100, 101, 84, 85, 86, 87, 88, 89, 90, 91, 92, 102, 103, 104] (by decide +kernel) (by decide +kernel)
set_option maxRecDepth 20000 in
theorem gX2_payGrounds_X2_isOwed : GoodIn wsX2_payGrounds (wsV RX2 237 RX2 yX2_isOwed wsX2_isOwed) := goodIn_app (goodIn_of _ (by decide +kernel)) ggX2_payGrounds_X2_isOwed
set_option maxRecDepth 20000 in
theorem ggX2_payGrounds_X0_price : GoodIn wsX2_payGrounds wsX0_price := goodIn_r _ [81, 82, 83, 93, 94, 95, 96, 97, 98, 99, 100, 101] (by decide +kernel) (by decide +kernel)
set_option maxRecDepth 20000 in
theorem gX2_payGrounds_X0_price_n145 : GoodIn wsX2_payGrounds (wsX0_price) := ggX2_payGrounds_X0_price
theorem dX2_payGrounds_0 : decode cX2_payGrounds 0 = .ok (.iconst 0, 1) := by decide +kernel
theorem dX2_payGrounds_1 : decode cX2_payGrounds 1 = .ok (.istore 4, 2) := by decide +kernel
theorem dX2_payGrounds_3 : decode cX2_payGrounds 3 = .ok (.iload 4, 2) := by decide +kernel
theorem dX2_payGrounds_5 : decode cX2_payGrounds 5 = .ok (.aload_n 0, 1) := by decide +kernel
theorem dX2_payGrounds_6 : decode cX2_payGrounds 6 = .ok (.getfield 41, 3) := by decide +kernel
theorem dX2_payGrounds_9 : decode cX2_payGrounds 9 = .ok (.if_icmp .ge 50, 3) := by decide +kernel
theorem dX2_payGrounds_12 : decode cX2_payGrounds 12 = .ok (.aload_n 0, 1) := by decide +kernel
theorem dX2_payGrounds_13 : decode cX2_payGrounds 13 = .ok (.lload_n 1, 1) := by decide +kernel
theorem dX2_payGrounds_14 : decode cX2_payGrounds 14 = .ok (.aload_n 0, 1) := by decide +kernel
theorem dX2_payGrounds_15 : decode cX2_payGrounds 15 = .ok (.getfield 37, 3) := by decide +kernel
theorem dX2_payGrounds_18 : decode cX2_payGrounds 18 = .ok (.iload 4, 2) := by decide +kernel
theorem dX2_payGrounds_20 : decode cX2_payGrounds 20 = .ok (.aaload, 1) := by decide +kernel
theorem dX2_payGrounds_21 : decode cX2_payGrounds 21 = .ok (.iload_n 3, 1) := by decide +kernel
theorem dX2_payGrounds_22 : decode cX2_payGrounds 22 = .ok (.invokevirtual 237, 3) := by decide +kernel
theorem dX2_payGrounds_25 : decode cX2_payGrounds 25 = .ok (.ifCond .eq 28, 3) := by decide +kernel
theorem dX2_payGrounds_28 : decode cX2_payGrounds 28 = .ok (.aload_n 0, 1) := by decide +kernel
theorem dX2_payGrounds_29 : decode cX2_payGrounds 29 = .ok (.getfield 37, 3) := by decide +kernel
theorem dX2_payGrounds_32 : decode cX2_payGrounds 32 = .ok (.iload 4, 2) := by decide +kernel
theorem dX2_payGrounds_34 : decode cX2_payGrounds 34 = .ok (.aaload, 1) := by decide +kernel
theorem dX2_payGrounds_35 : decode cX2_payGrounds 35 = .ok (.dup, 1) := by decide +kernel
theorem dX2_payGrounds_36 : decode cX2_payGrounds 36 = .ok (.getfield 183, 3) := by decide +kernel
theorem dX2_payGrounds_39 : decode cX2_payGrounds 39 = .ok (.aload_n 0, 1) := by decide +kernel
theorem dX2_payGrounds_40 : decode cX2_payGrounds 40 = .ok (.getfield 37, 3) := by decide +kernel
theorem dX2_payGrounds_43 : decode cX2_payGrounds 43 = .ok (.iload 4, 2) := by decide +kernel
theorem dX2_payGrounds_45 : decode cX2_payGrounds 45 = .ok (.aaload, 1) := by decide +kernel
theorem dX2_payGrounds_46 : decode cX2_payGrounds 46 = .ok (.invokevirtual 145, 3) := by decide +kernel
theorem dX2_payGrounds_49 : decode cX2_payGrounds 49 = .ok (.iadd, 1) := by decide +kernel
theorem dX2_payGrounds_50 : decode cX2_payGrounds 50 = .ok (.putfield 183, 3) := by decide +kernel
theorem dX2_payGrounds_53 : decode cX2_payGrounds 53 = .ok (.iinc 4 1, 3) := by decide +kernel
theorem dX2_payGrounds_56 : decode cX2_payGrounds 56 = .ok (.goto (-53), 3) := by decide +kernel
theorem dX2_payGrounds_59 : decode cX2_payGrounds 59 = .ok (.return_, 1) := by decide +kernel
set_option maxRecDepth 20000 in
theorem ggX2_isOwed_X0_isShutIn : GoodIn wsX2_isOwed wsX0_isShutIn := goodIn_r _ [4, 5, 6, 73, 74, 75, 76, 77, 78, 79, 80, 81] (by decide +kernel) (by decide +kernel)
set_option maxRecDepth 20000 in
theorem gX2_isOwed_X0_isShutIn_n148 : GoodIn wsX2_isOwed (wsX0_isShutIn) := ggX2_isOwed_X0_isShutIn
set_option maxRecDepth 20000 in
theorem ggX2_isOwed_X2_isMetByAny : GoodIn wsX2_isOwed wsX2_isMetByAny := goodIn_r _ [11, 12, 13, 14, 15, 16, 17, 18, 19, 20, 10, 21, 22, 23, 24, 25, 26, 27, 28, 29, 30, 31, 32, 33, 34, 35, 36, 37, 38, 39, 40, 41, 42, 43, 44, 45, 46, 47, 48, 49, 50, 51, 52, 53, 54, 55, 56, 57, 58, 59, 60, 61, 62, 63, 64, 65, 66, 67, 68, 69, 70, 71, 72, 82, 83, 84, 85, 86, 87, 88, 89, 90, 91, 92, 93, 73, 74, 75, 76, 77, 78, 79, 80, 81] (by decide +kernel) (by decide +kernel)
set_option maxRecDepth 20000 in
theorem gX2_isOwed_X2_isMetByAny : GoodIn wsX2_isOwed (wsV RX2 241 RX2 yX2_isMetByAny wsX2_isMetByAny) := goodIn_app (goodIn_of _ (by decide +kernel)) ggX2_isOwed_X2_isMetByAny
theorem dX2_isOwed_0 : decode cX2_isOwed 0 = .ok (.aload_n 3, 1) := by decide +kernel
theorem dX2_isOwed_1 : decode cX2_isOwed 1 = .ok (.iload 4, 2) := by decide +kernel
theorem dX2_isOwed_3 : decode cX2_isOwed 3 = .ok (.invokevirtual 148, 3) := by decide +kernel
theorem dX2_isOwed_6 : decode cX2_isOwed 6 = .ok (.ifCond .eq 16, 3) := by decide +kernel
theorem dX2_isOwed_9 : decode cX2_isOwed 9 = .ok (.aload_n 0, 1) := by decide +kernel
theorem dX2_isOwed_10 : decode cX2_isOwed 10 = .ok (.lload_n 1, 1) := by decide +kernel
theorem dX2_isOwed_11 : decode cX2_isOwed 11 = .ok (.aload_n 3, 1) := by decide +kernel
theorem dX2_isOwed_12 : decode cX2_isOwed 12 = .ok (.invokevirtual 241, 3) := by decide +kernel
theorem dX2_isOwed_15 : decode cX2_isOwed 15 = .ok (.ifCond .eq 7, 3) := by decide +kernel
theorem dX2_isOwed_18 : decode cX2_isOwed 18 = .ok (.iconst 1, 1) := by decide +kernel
theorem dX2_isOwed_19 : decode cX2_isOwed 19 = .ok (.goto 4, 3) := by decide +kernel
theorem dX2_isOwed_22 : decode cX2_isOwed 22 = .ok (.iconst 0, 1) := by decide +kernel
theorem dX2_isOwed_23 : decode cX2_isOwed 23 = .ok (.ireturn, 1) := by decide +kernel
set_option maxRecDepth 20000 in
theorem ggX2_isMetByAny_X1_pieces : GoodIn wsX2_isMetByAny wsX1_pieces := goodIn_r _ [6, 7, 72, 73, 74] (by decide +kernel) (by decide +kernel)
set_option maxRecDepth 20000 in
theorem gX2_isMetByAny_X1_pieces_n200 : GoodIn wsX2_isMetByAny (wsX1_pieces) := ggX2_isMetByAny_X1_pieces
set_option maxRecDepth 20000 in
theorem ggX2_isMetByAny_X2_isIn : GoodIn wsX2_isMetByAny wsX2_isIn := goodIn_r _ [11, 12, 13, 10, 14] (by decide +kernel) (by decide +kernel)
set_option maxRecDepth 20000 in
theorem gX2_isMetByAny_X2_isIn : GoodIn wsX2_isMetByAny (va_wsS RX2 233 yX2_isIn wsX2_isIn) := goodIn_app (goodIn_of _ (by decide +kernel)) ggX2_isMetByAny_X2_isIn
set_option maxRecDepth 20000 in
theorem ggX2_isMetByAny_X1_pieceMeets : GoodIn wsX2_isMetByAny wsX1_pieceMeets := goodIn_r _ [17, 18, 19, 20, 4, 21, 22, 23, 24, 25, 26, 27, 28, 29, 30, 31, 32, 33, 34, 35, 36, 37, 38, 39, 40, 41, 42, 43, 44, 45, 46, 47, 48, 49, 50, 51, 52, 53, 54, 55, 56, 57, 58, 59, 60, 61, 62, 75, 76, 77, 78, 79, 80, 81, 82, 83, 72, 73, 74] (by decide +kernel) (by decide +kernel)
set_option maxRecDepth 20000 in
theorem gX2_isMetByAny_X1_pieceMeets_n155 : GoodIn wsX2_isMetByAny (wsX1_pieceMeets) := ggX2_isMetByAny_X1_pieceMeets
theorem dX2_isMetByAny_0 : decode cX2_isMetByAny 0 = .ok (.iconst 0, 1) := by decide +kernel
theorem dX2_isMetByAny_1 : decode cX2_isMetByAny 1 = .ok (.istore 4, 2) := by decide +kernel
theorem dX2_isMetByAny_3 : decode cX2_isMetByAny 3 = .ok (.iload 4, 2) := by decide +kernel
theorem dX2_isMetByAny_5 : decode cX2_isMetByAny 5 = .ok (.aload_n 0, 1) := by decide +kernel
theorem dX2_isMetByAny_6 : decode cX2_isMetByAny 6 = .ok (.getfield 20, 3) := by decide +kernel
theorem dX2_isMetByAny_9 : decode cX2_isMetByAny 9 = .ok (.if_icmp .ge 62, 3) := by decide +kernel
theorem dX2_isMetByAny_12 : decode cX2_isMetByAny 12 = .ok (.iconst 0, 1) := by decide +kernel
theorem dX2_isMetByAny_13 : decode cX2_isMetByAny 13 = .ok (.istore 5, 2) := by decide +kernel
theorem dX2_isMetByAny_15 : decode cX2_isMetByAny 15 = .ok (.iload 5, 2) := by decide +kernel
theorem dX2_isMetByAny_17 : decode cX2_isMetByAny 17 = .ok (.aload_n 0, 1) := by decide +kernel
theorem dX2_isMetByAny_18 : decode cX2_isMetByAny 18 = .ok (.getfield 16, 3) := by decide +kernel
theorem dX2_isMetByAny_21 : decode cX2_isMetByAny 21 = .ok (.iload 4, 2) := by decide +kernel
theorem dX2_isMetByAny_23 : decode cX2_isMetByAny 23 = .ok (.aaload, 1) := by decide +kernel
theorem dX2_isMetByAny_24 : decode cX2_isMetByAny 24 = .ok (.invokevirtual 200, 3) := by decide +kernel
theorem dX2_isMetByAny_27 : decode cX2_isMetByAny 27 = .ok (.if_icmp .ge 38, 3) := by decide +kernel
theorem dX2_isMetByAny_30 : decode cX2_isMetByAny 30 = .ok (.lload_n 1, 1) := by decide +kernel
theorem dX2_isMetByAny_31 : decode cX2_isMetByAny 31 = .ok (.iload 4, 2) := by decide +kernel
theorem dX2_isMetByAny_33 : decode cX2_isMetByAny 33 = .ok (.iload 5, 2) := by decide +kernel
theorem dX2_isMetByAny_35 : decode cX2_isMetByAny 35 = .ok (.invokestatic 233, 3) := by decide +kernel
theorem dX2_isMetByAny_38 : decode cX2_isMetByAny 38 = .ok (.ifCond .eq 21, 3) := by decide +kernel
theorem dX2_isMetByAny_41 : decode cX2_isMetByAny 41 = .ok (.aload_n 0, 1) := by decide +kernel
theorem dX2_isMetByAny_42 : decode cX2_isMetByAny 42 = .ok (.getfield 16, 3) := by decide +kernel
theorem dX2_isMetByAny_45 : decode cX2_isMetByAny 45 = .ok (.iload 4, 2) := by decide +kernel
theorem dX2_isMetByAny_47 : decode cX2_isMetByAny 47 = .ok (.aaload, 1) := by decide +kernel
theorem dX2_isMetByAny_48 : decode cX2_isMetByAny 48 = .ok (.iload 5, 2) := by decide +kernel
theorem dX2_isMetByAny_50 : decode cX2_isMetByAny 50 = .ok (.aload_n 3, 1) := by decide +kernel
theorem dX2_isMetByAny_51 : decode cX2_isMetByAny 51 = .ok (.invokevirtual 155, 3) := by decide +kernel
theorem dX2_isMetByAny_54 : decode cX2_isMetByAny 54 = .ok (.ifCond .eq 5, 3) := by decide +kernel
theorem dX2_isMetByAny_57 : decode cX2_isMetByAny 57 = .ok (.iconst 1, 1) := by decide +kernel
theorem dX2_isMetByAny_58 : decode cX2_isMetByAny 58 = .ok (.ireturn, 1) := by decide +kernel
theorem dX2_isMetByAny_59 : decode cX2_isMetByAny 59 = .ok (.iinc 5 1, 3) := by decide +kernel
theorem dX2_isMetByAny_62 : decode cX2_isMetByAny 62 = .ok (.goto (-47), 3) := by decide +kernel
theorem dX2_isMetByAny_65 : decode cX2_isMetByAny 65 = .ok (.iinc 4 1, 3) := by decide +kernel
theorem dX2_isMetByAny_68 : decode cX2_isMetByAny 68 = .ok (.goto (-65), 3) := by decide +kernel
theorem dX2_isMetByAny_71 : decode cX2_isMetByAny 71 = .ok (.iconst 0, 1) := by decide +kernel
theorem dX2_isMetByAny_72 : decode cX2_isMetByAny 72 = .ok (.ireturn, 1) := by decide +kernel
end
section
/-! ONE MEMORY: the office, the model and the law's own row as one memory M of ints, by numbers of cells; GH: the heap holds it; every contract speaks of M. -/
def bI (b : Bool) : Int32 := if b then 1 else 0
def up2 (M : Nat → Nat → Int32) (i k : Nat) (v : Int32) : Nat → Nat → Int32 := fun a => if a = i then upd (M i) k v else M a
theorem up2_self (M : Nat → Nat → Int32) (i k : Nat) (v : Int32) : up2 M i k v i = upd (M i) k v := by simp [up2]
theorem up2_ne (M : Nat → Nat → Int32) {i j : Nat} (k : Nat) (v : Int32) (h : j ≠ i) : up2 M i k v j = M j := by simp [up2, h]
/-- the context: class ids and slots, array classes, the bound below which nothing is written, addresses by cell number, string addresses, the script -/
abbrev Cx : Type := va_G × (Nat → ClassId) × Nat × (Nat → Nat) × (Nat → Nat) × (Nat × Nat × (Nat → Int32))
abbrev xD (x : Cx) : va_G := x.1
abbrev xA (x : Cx) : Nat → ClassId := x.2.1
abbrev xB (x : Cx) : Nat := x.2.2.1
abbrev xa (x : Cx) : Nat → Nat := x.2.2.2.1
abbrev xs (x : Cx) : Nat → Nat := x.2.2.2.2.1
abbrev xb (x : Cx) : Nat := x.2.2.2.2.2.1
abbrev xL (x : Cx) : Nat := x.2.2.2.2.2.2.1
abbrev xX (x : Cx) : Nat → Int32 := x.2.2.2.2.2.2.2
def xT (x : Cx) : List (ClassId × FieldType) := [(xA x 0, .int), (xA x 1, .boolean), (xA x 2, .object RX1), (xA x 3, .object RX0), (xA x 4, .long)]
def shO (x : Cx) (r : Nat → Int32) : va_E := .inr (2, [.ref (xa x 35), .ref (xa x 1), .int (r 2), .ref (xa x 2), .ref (xa x 3), .ref (xa x 4), .ref (xa x 5), .int (r 7), .int (r 8)])
def shM (x : Cx) (r : Nat → Int32) : va_E := .inr (3, [.int (r 0), .int (r 1), .ref (xa x 39), .ref (xa x 40), .int (r 4), .ref (xa x 41), .ref (xa x 42), .ref (xa x 43), .ref (xa x 44), .int (r 9), .ref (xa x 45), .ref (xa x 46), .ref (xa x 47), .ref (xa x 48), .ref (xa x 49), .ref (xa x 50), .ref (xa x 51), .ref (xa x 52), .ref (xa x 53), .int (r 19), .ref (xa x 54), .ref (xa x 55)])
def shG (r : Nat → Int32) : va_E := .inr (0, [.int (r 0), .int (r 1), .int (r 2), .int (r 3), .int (r 4), .int (r 5), .int (r 6), .int (r 7), .int (r 8)])
def shR (x : Cx) (id : Nat) (r : Nat → Int32) : va_E := .inr (1, [.ref (xa x (id + 1)), .ref (xa x (id + 2)), .int (r 2)])
def shI (x : Cx) (n : Nat) (r : Nat → Int32) : va_E := .inl (xA x 0, n, .inl r)
def shZ (x : Cx) (n : Nat) (r : Nat → Int32) : va_E := .inl (xA x 1, n, .inl r)
def sh (x : Cx) (r : Nat → Int32) (id : Nat) : va_E :=
  if id = 0 then shO x r else if id = 1 then .inl (xA x 2, 8, .inr (.inr (.inr (.inr fun j => some (xa x (11 + 3 * j))))))
  else if id < 4 then shI x 64 r else if id = 4 then shZ x 64 r else if id = 5 then .inl (xA x 3, 5, .inr (.inr (.inr (.inr fun j => some (xa x (6 + j))))))
  else if id < 11 then shG r else if id < 38 then (if (id - 11) % 3 = 0 then shR x id r else shI x 8 r) else if id = 38 then shM x r
  else if id < 42 then shI x 8 r else if id < 44 then shI x 64 r else if id = 44 then shZ x 64 r else if id < 54 then shI x 5 r
  else if id = 54 then shZ x 64 r else if id = 55 then shI x 64 r else .inl (xA x 4, 1, .inr (.inl fun j => (r j).toInt64))
theorem sh_g (x : Cx) (r : Nat → Int32) {g : Nat} (h : g < 5) : sh x r (6 + g) = shG r := by
  rcases (show g = 0 ∨ g = 1 ∨ g = 2 ∨ g = 3 ∨ g = 4 by omega) with rfl | rfl | rfl | rfl | rfl <;> rfl
theorem sh_r (x : Cx) (r : Nat → Int32) {i : Nat} (h : i < 9) : sh x r (11 + 3 * i) = shR x (11 + 3 * i) r := by
  rcases (show i = 0 ∨ i = 1 ∨ i = 2 ∨ i = 3 ∨ i = 4 ∨ i = 5 ∨ i = 6 ∨ i = 7 ∨ i = 8 by omega) with rfl | rfl | rfl | rfl | rfl | rfl | rfl | rfl | rfl <;> rfl
theorem sh_x (x : Cx) (r : Nat → Int32) {i : Nat} (h : i < 9) : sh x r (11 + 3 * i + 1) = shI x 8 r := by
  rcases (show i = 0 ∨ i = 1 ∨ i = 2 ∨ i = 3 ∨ i = 4 ∨ i = 5 ∨ i = 6 ∨ i = 7 ∨ i = 8 by omega) with rfl | rfl | rfl | rfl | rfl | rfl | rfl | rfl | rfl <;> rfl
theorem sh_y (x : Cx) (r : Nat → Int32) {i : Nat} (h : i < 9) : sh x r (11 + 3 * i + 2) = shI x 8 r := by
  rcases (show i = 0 ∨ i = 1 ∨ i = 2 ∨ i = 3 ∨ i = 4 ∨ i = 5 ∨ i = 6 ∨ i = 7 ∨ i = 8 by omega) with rfl | rfl | rfl | rfl | rfl | rfl | rfl | rfl | rfl <;> rfl
/-- the links of private members of a nest mate -/
def nestW : List Cond := [.fieldLinkNest RX2 83 "CableOffice$Route" "x" "[I" RX2, .fieldLinkNest RX2 86 "CableOffice$Route" "y" "[I" RX2, .fieldLinkNest RX2 52 "CableOffice$Route" "points" "I" RX2, .fieldLinkNest RX1 71 "CableOffice$Ground" "left" "I" RX2, .fieldLinkNest RX1 76 "CableOffice$Ground" "low" "I" RX2, .fieldLinkNest RX1 79 "CableOffice$Ground" "right" "I" RX2, .fieldLinkNest RX1 82 "CableOffice$Ground" "high" "I" RX2, .fieldLinkNest RX2 137 "CableOffice$Ground" "catches" "I" RX2, .fieldLinkNest RX2 142 "CableOffice$Ground" "catchSum" "I" RX2, .fieldLinkNest RX2 183 "CableOffice$Ground" "paidSum" "I" RX2,
  .methodLinkNest RX2 9 yX1_init RX2, .methodLinkNest RX2 47 yX0_init RX2, .methodLinkNest RX2 55 yX1_isAt RX2, .methodLinkNest RX2 66 yX1_add RX2, .methodLinkNest RX2 71 yX1_takeAllOf RX2, .methodLinkNest RX2 200 yX1_pieces RX2, .methodLinkNest RX2 215 yX1_pieceCrosses RX2, .methodLinkNest RX2 219 yX1_pieceIsSteepTo RX2, .methodLinkNest RX2 124 yX0_setBounds RX2, .methodLinkNest RX2 128 yX0_setMonths RX2, .methodLinkNest RX2 145 yX0_price RX2, .methodLinkNest RX2 148 yX0_isShutIn RX2, .methodLinkNest RX2 155 yX1_pieceMeets RX2]
theorem nest_warm {s U : State} (hW : s.WarmedH U.vm) (h : ∀ w ∈ nestW, va_Nw w s) : ∀ w ∈ nestW, va_Nw w U := by
  intro w hw
  have h1 := h w hw
  simp only [nestW, List.mem_cons, List.not_mem_nil, or_false] at hw
  rcases hw with rfl | rfl | rfl | rfl | rfl | rfl | rfl | rfl | rfl | rfl | rfl | rfl | rfl | rfl | rfl | rfl | rfl | rfl | rfl | rfl | rfl | rfl | rfl <;> first | exact va_Nw.warmF hW h1 | exact va_Nw.warmM hW h1
/-- the texts of the office's exceptions -/
def strW : List (Nat × String) := [(107, "the cables do not cross well, or have an agreement"), (115, "right is less than left, or high less than low"), (122, "there are 5 grounds"), (135, "the amount is out of range"), (140, "100 catches were told for the ground"), (177, "the repair is not possible, or 500 were made"), (186, "the place is out of range"), (188, "the month is out of range"), (192, "there is no such cable"), (198, "there is no such point"), (203, "there is no such piece"), (205, "there is no such ground"), (61, "the draft is full, or its last point is at this place"), (69, "the draft is too short, or there are 8 cables"), (81, "a neighbour of the point is at this place")]
def eI : String := "java/lang/IllegalStateException"
def eA : String := "java/lang/IllegalArgumentException"
def eX : String := "java/lang/IndexOutOfBoundsException"
def excN : List String := ["java/lang/RuntimeException", "java/lang/Exception"]
def excB (E : String) : List Cond := [.castable E E, .declares (Bundle.initS "java/lang/RuntimeException"), .declares (Bundle.initS "java/lang/Exception"), .declares (Bundle.initS Bundle.tN)]
def ExW (E : String) (U : State) : Prop := ∀ w ∈ excB E, va_Nw w U
theorem ExW.warm {E : String} {s U : State} (hW : s.WarmedH U.vm) (h : ExW E s) : ExW E U := by
  intro w hw
  have h1 := h w hw
  simp only [excB, List.mem_cons, List.not_mem_nil, or_false] at hw
  rcases hw with rfl | rfl | rfl | rfl
  · exact va_tabs rfl (rfl : (s.setVm U.vm).vm = U.vm) (by rw [Cond.castable_setVm hW.alike]; exact h1)
  all_goals exact va_Nw.warmD hW h1
def excW : List String := [eI, eA, eX]
def ncW : List (String × String) := [(eA, eX), (eI, eX), (eI, eA)]
def gF (x : Cx) : Nat → Prop := fun q => xB x ≤ q
def wAllN (N : Nat) (x : Cx) (M : Nat → Nat → Int32) : va_W := (List.range N).map fun id => (xa x id, sh x (M id) id)
theorem wAllN_at {N : Nat} {x : Cx} {M : Nat → Nat → Int32} {id : Nat} (h : id < N) : (wAllN N x M)[id]? = some (xa x id, sh x (M id) id) := by simp [wAllN, h]
theorem wAllN_len (N : Nat) (x : Cx) (M : Nat → Nat → Int32) : (wAllN N x M).length = N := by simp [wAllN]
theorem wAllN_set {N : Nat} {x : Cx} {M : Nat → Nat → Int32} {id : Nat} (h : id < N) (r : Nat → Int32) : (wAllN N x M).set id (xa x id, sh x r id) = wAllN N x (fun a => if a = id then r else M a) := by
  apply List.ext_getElem?
  intro j
  by_cases hj : j = id
  · subst hj
    rw [List.getElem?_set_self (by rw [wAllN_len]; exact h), wAllN_at h]
    simp
  · rw [List.getElem?_set_ne (Ne.symm hj)]
    by_cases hjN : j < N
    · rw [wAllN_at hjN, wAllN_at hjN]
      simp [hj]
    · rw [List.getElem?_eq_none (by rw [wAllN_len]; omega), List.getElem?_eq_none (by rw [wAllN_len]; omega)]
def wAll (x : Cx) (M : Nat → Nat → Int32) : va_W := wAllN 57 x M
theorem wAll_len (x : Cx) (M : Nat → Nat → Int32) : (wAll x M).length = 57 := wAllN_len 57 x M
theorem wAll_get {x : Cx} {M : Nat → Nat → Int32} {id : Nat} {e : va_E} (h : id < 57) (he : sh x (M id) id = e) : (wAll x M)[id]? = some (xa x id, e) := by
  subst he
  exact wAllN_at h
theorem wAll_set {x : Cx} {M : Nat → Nat → Int32} {id : Nat} {e : va_E} (h : id < 57) (r : Nat → Int32) (he : sh x r id = e) : (wAll x M).set id (xa x id, e) = wAll x (fun a => if a = id then r else M a) := by
  subst he
  exact wAllN_set h r
theorem wAll_lt {x : Cx} {M : Nat → Nat → Int32} {k : Nat} {q : Nat × va_E} (h : (wAll x M)[k]? = some q) : k < 57 := by
  have h1 := (List.getElem?_eq_some_iff.mp h).1
  rw [wAll_len] at h1
  exact h1
theorem wAll_up2 {x : Cx} {M : Nat → Nat → Int32} {id k : Nat} {v : Int32} {e : va_E} (h : id < 57) (he : sh x (upd (M id) k v) id = e) : (wAll x M).set id (xa x id, e) = wAll x (up2 M id k v) := wAll_set h _ he
/-- what doesn't speak of the heap -/
def GS (x : Cx) (U : State) : Prop := va_K (xD x) vwCl (xT x) U ∧ (∀ i j : Nat, i < 57 → j < 57 → xa x i = xa x j → i = j) ∧ (∀ i : Nat, i < 57 → xB x ≤ xa x i) ∧ xb x < xB x ∧ (∀ w ∈ nestW, va_Nw w U) ∧ (∀ t ∈ strW, vk_R RX2 t.1 t.2 (xs x t.1) U) ∧ (∀ E ∈ excW, ExW E U) ∧ (∀ q ∈ ncW, va_Nc q.1 q.2 U)
/-- what lies below the bound -/
def GZ (x : Cx) (U : State) (H : Heap) : Prop := vx_Zq Bundle.tN "UNASSIGNED_STACK" Bundle.steD (gF x) U H ∧ vx_Zq Bundle.tN "SUPPRESSED_SENTINEL" Bundle.listD (gF x) U H ∧ va_X (xb x) (xL x) (xX x) U H ∧ xB x ≤ H.size
def GH (x : Cx) (M : Nat → Nat → Int32) (U : State) (H : Heap) : Prop := va_P (xD x) vwCl (wAll x M) H ∧ GZ x U H
theorem GS.warm {x : Cx} {s U : State} (hW : s.WarmedH U.vm) (h : GS x s) : GS x U := by
  obtain ⟨h1, h2, h3, h4, h5, h6, h7, h8⟩ := h
  exact ⟨va_K.moved hW.alike h1, h2, h3, h4, nest_warm hW h5, fun t ht => vk_R.warm hW (h6 t ht), fun E hE => (h7 E hE).warm hW, fun q hq => (h8 q hq).moved hW.alike⟩
theorem GZ.moved {x : Cx} {u U : State} {H : Heap} (hvm : u.vm.Alike U.vm) (h : GZ x u H) : GZ x U H := ⟨vx_Zq.moved hvm h.1, vx_Zq.moved hvm h.2.1, va_X.moved hvm h.2.2.1, h.2.2.2⟩
theorem GZ.kept {x : Cx} {s : State} {H H1 : Heap} {locs : List Loc} (hb : xb x < xB x) (h : GZ x s H) (hV : va_S (gF x) H H1 locs) : GZ x s H1 := by
  obtain ⟨h1, h2, h3, h4⟩ := h
  exact ⟨vx_Zq.kept h1 hV.2.1, vx_Zq.kept h2 hV.2.1, va_X.kept h3 (hV.2.1 _ (Nat.lt_of_lt_of_le hb h4) (Nat.not_le.mpr hb)), Nat.le_trans h4 hV.1⟩
theorem GH.moved {x : Cx} {M : Nat → Nat → Int32} {u U : State} {H : Heap} (hvm : u.vm.Alike U.vm) (h : GH x M u H) : GH x M U H := ⟨h.1, h.2.moved hvm⟩
theorem GS.D {x : Cx} {s : State} (h : GS x s) (M : Nat → Nat → Int32) : va_D (gF x) (wAll x M) := by
  refine ⟨fun i j p q hi hj hpq => ?_, fun k q hk => ?_⟩
  · have li := wAll_lt hi
    have lj := wAll_lt hj
    rw [wAll_get li rfl] at hi
    rw [wAll_get lj rfl] at hj
    cases hi; cases hj
    exact h.2.1 i j li lj hpq
  · have lk := wAll_lt hk
    rw [wAll_get lk rfl] at hk
    cases hk
    exact h.2.2.1 k lk
/-- starts and ends of contracts -/
def gP (x : Cx) (M : Nat → Nat → Int32) (as : List Value) : Array Value → State → Prop := fun v U => v = as.toArray ∧ GS x U ∧ GH x M U U.heap
def gQ (x : Cx) (r : Option Value) (M : Nat → Nat → Int32) : Array Value → State → Outcome → State → Prop := fun _ st o t => o = .returned r ∧ (GH x M t t.heap) ∧ va_F (gF x) st t
theorem gP_blind (x : Cx) (M : Nat → Nat → Int32) (as : List Value) : FrameBlind (gP x M as) := fun a U g mk h => ⟨h.1, h.2.1.warm (State.WarmedH.refl U), h.2.2.moved (Vm.Alike.refl U.vm)⟩
end
section
/-! What the office's routes and grounds answer, in rows of ints. -/
def wd (X : Nat → Int32) (k : Nat) : Int32 := X (k + 1) - X k
def minI (a b : Int32) : Int32 := if b < a then b else a
def maxI (a b : Int32) : Int32 := if a < b then b else a
def absI (a : Int32) : Int32 := if 0 ≤ a then a else 0 - a
def sideO (X Y : Nat → Int32) (k : Nat) (px py : Int32) : Int32 := wd X k * (py - Y k) - wd Y k * (px - X k)
def loO (X : Nat → Int32) (k : Nat) : Int32 := minI (X k) (X (k + 1))
def hiO (X : Nat → Int32) (k : Nat) : Int32 := maxI (X k) (X (k + 1))
def boxO (X Y : Nat → Int32) (k : Nat) (l lo r h : Int32) : Bool := !decide (r < loO X k) && (!decide (hiO X k < l) && (!decide (h < loO Y k) && !decide (hiO Y k < lo)))
def divO (X Y : Nat → Int32) (p : Nat) (X2 Y2 : Nat → Int32) (k : Nat) : Bool := !decide (0 < minI (sideO X Y p (X2 k) (Y2 k)) (sideO X Y p (X2 (k + 1)) (Y2 (k + 1)))) && !decide (maxI (sideO X Y p (X2 k) (Y2 k)) (sideO X Y p (X2 (k + 1)) (Y2 (k + 1))) < 0)
def crO (X Y : Nat → Int32) (p : Nat) (X2 Y2 : Nat → Int32) (k : Nat) : Bool := boxO X Y p (loO X2 k) (loO Y2 k) (hiO X2 k) (hiO Y2 k) && (divO X Y p X2 Y2 k && divO X2 Y2 k X Y p)
def stO (X Y : Nat → Int32) (p : Nat) (X2 Y2 : Nat → Int32) (k : Nat) : Bool := !decide (absI (wd X p * wd Y2 k - wd Y p * wd X2 k) < absI (wd X p * wd X2 k + wd Y p * wd Y2 k))
def lmO (X Y : Nat → Int32) (p : Nat) (l lo r h : Int32) : Bool := !decide (0 < minI (minI (sideO X Y p l lo) (sideO X Y p r lo)) (minI (sideO X Y p l h) (sideO X Y p r h))) && !decide (maxI (maxI (sideO X Y p l lo) (sideO X Y p r lo)) (maxI (sideO X Y p l h) (sideO X Y p r h)) < 0)
def mtO (X Y : Nat → Int32) (p : Nat) (l lo r h : Int32) : Bool := boxO X Y p l lo r h && lmO X Y p l lo r h
def atO (n : Int32) (X Y : Nat → Int32) (q px py : Int32) : Bool := if q < 0 then false else if n ≤ q then false else decide (X q.toNatClampNeg = px) && decide (Y q.toNatClampNeg = py)
def shutO (f t m : Int32) : Bool := if t < f then (!decide (m < f) || !decide (t < m)) else (!decide (m < f) && !decide (t < m))
def prO (n sm : Int32) : Int32 := if n ≤ 0 then 0 else sm / n
def cpR (M : Nat → Nat → Int32) (a b : Nat) : Nat → Nat → Int32 := fun i => if i = b then (fun k => if k < 8 then M a k else M b k) else M i
section GW
variable {p : Program} {l : Launch} {e : Env} {R : Room} {s : State} {m : MethodId} {args : Array Value} {below : List Frame} {meth : Method} {c : Code} {H : Heap} {locs : List Loc} {cells slots : Nat} {Q : State → Prop} {cc : ByteArray} {pc : Nat} {ls : Array Slot} {rest st0 : List Value} {x : Cx} {M : Nat → Nat → Int32}
theorem g_zk (hS : GS x s) (hZ : GZ x s s.heap) (hV : va_S (gF x) s.heap H locs) : GZ x s H := hZ.kept hS.2.2.2.1 hV
theorem g_get (hx : p.tables.exec = Jvm.exec) (hb : c.code = cc) {own C : String} {T : u_T} {N ci index : Nat} {Ts : List Cond} (hts : ∀ w ∈ Ts, w.before args s = true) (hin : ∀ w ∈ u_ws C T N, w ∈ Ts) (hown : s.vm.findClass own = some m.cls) (hS : GS x s) (hP : va_P (xD x) vwCl (wAll x M) H) {id : Nat} {fs : List Value} (hid : id < 57) (he : sh x (M id) id = .inr (ci, fs)) (hc : vwCl[ci]? = some (C, T, N)) (k : Nat) (hk : k < N) (hlink : (Cond.fieldLink own index (T k).1 (T k).2.1 (T k).2.2.1).before args s = true) {v : Value} (hv : fs[k]? = some v) (hdg : decode cc pc = .ok (.getfield index, 3))
    (kk : W p l e R s m args below meth c H locs cells slots Q (F0 m (pc + 3) ls (v :: rest))) : W p l e R s m args below meth c H locs cells slots Q (F0 m pc ls (.ref (xa x id) :: rest)) :=
  va_get hx hb hts hin hown hS.1 hP id (wAll_get hid he) hc k hk hlink (fun _ h => h) hv hdg kk
theorem g_getN (hx : p.tables.exec = Jvm.exec) (hb : c.code = cc) {own C host : String} {T : u_T} {N ci index : Nat} {Ts : List Cond} (hts : ∀ w ∈ Ts, w.before args s = true) (hin : ∀ w ∈ u_ws C T N, w ∈ Ts) (hown : s.vm.findClass own = some m.cls) (hS : GS x s) (hP : va_P (xD x) vwCl (wAll x M) H) {id : Nat} {fs : List Value} (hid : id < 57) (he : sh x (M id) id = .inr (ci, fs)) (hc : vwCl[ci]? = some (C, T, N)) (k : Nat) (hk : k < N) (hlink : Cond.fieldLinkNest own index (T k).1 (T k).2.1 (T k).2.2.1 host ∈ nestW) {v : Value} (hv : fs[k]? = some v) (hdg : decode cc pc = .ok (.getfield index, 3))
    (kk : W p l e R s m args below meth c H locs cells slots Q (F0 m (pc + 3) ls (v :: rest))) : W p l e R s m args below meth c H locs cells slots Q (F0 m pc ls (.ref (xa x id) :: rest)) :=
  va_getN hx hb hts hin hown hS.1 hP id (wAll_get hid he) hc k hk (va_Nw.use rfl (hS.2.2.2.2.1 _ hlink)) (fun _ h => h) hv hdg kk
theorem g_put (hx : p.tables.exec = Jvm.exec) (hb : c.code = cc) {own C : String} {T : u_T} {N ci index : Nat} {Ts : List Cond} (hts : ∀ w ∈ Ts, w.before args s = true) (hin : ∀ w ∈ u_ws C T N, w ∈ Ts) (ty0 : Nat → FieldType) (hty : ∀ k, k < N → parseFieldDescriptor (T k).2.2.1 = some (ty0 k)) (hnm : ∀ a, a < N → ∀ b, b < N → a ≠ b → (T a).2.1 ≠ (T b).2.1) (hown : s.vm.findClass own = some m.cls) (hS : GS x s) (hP : va_P (xD x) vwCl (wAll x M) H) (hV : va_S (gF x) s.heap H locs) {id : Nat} {fs : List Value} (hid : id < 57) (he : sh x (M id) id = .inr (ci, fs)) (hc : vwCl[ci]? = some (C, T, N)) (k : Nat) (hk : k < N) (hlink : (Cond.fieldLink own index (T k).1 (T k).2.1 (T k).2.2.1).before args s = true) (hfin : (T k).2.2.2 = false) (hd : parseFieldDescriptor (T k).2.2.1 = some .int) (hl : k < fs.length) {v : Int32} (he2 : sh x (upd (M id) k v) id = .inr (ci, fs.set k (.int v)))
    (hdg : decode cc pc = .ok (.putfield index, 3)) (kk : ∀ (H : Heap) (locs : List Loc), va_P (xD x) vwCl (wAll x (up2 M id k v)) H → va_S (gF x) s.heap H locs → W p l e R s m args below meth c H locs cells slots Q (F0 m (pc + 3) ls rest)) : W p l e R s m args below meth c H locs cells slots Q (F0 m pc ls (.int v :: .ref (xa x id) :: rest)) :=
  va_put hx hb hts hin ty0 hty hnm hown hS.1 hP (hS.D M) hV id (wAll_get hid he) hc k hk hlink (fun _ h => h) hfin hd rfl rfl hl hdg (fun H1 locs1 hP1 _ hV1 => kk H1 locs1 (by rw [wAll_up2 hid he2] at hP1; exact hP1) hV1)
theorem g_putN (hx : p.tables.exec = Jvm.exec) (hb : c.code = cc) {own C host : String} {T : u_T} {N ci index : Nat} {Ts : List Cond} (hts : ∀ w ∈ Ts, w.before args s = true) (hin : ∀ w ∈ u_ws C T N, w ∈ Ts) (ty0 : Nat → FieldType) (hty : ∀ k, k < N → parseFieldDescriptor (T k).2.2.1 = some (ty0 k)) (hnm : ∀ a, a < N → ∀ b, b < N → a ≠ b → (T a).2.1 ≠ (T b).2.1) (hown : s.vm.findClass own = some m.cls) (hS : GS x s) (hP : va_P (xD x) vwCl (wAll x M) H) (hV : va_S (gF x) s.heap H locs) {id : Nat} {fs : List Value} (hid : id < 57) (he : sh x (M id) id = .inr (ci, fs)) (hc : vwCl[ci]? = some (C, T, N)) (k : Nat) (hk : k < N) (hlink : Cond.fieldLinkNest own index (T k).1 (T k).2.1 (T k).2.2.1 host ∈ nestW) (hfin : (T k).2.2.2 = false) (hd : parseFieldDescriptor (T k).2.2.1 = some .int) (hl : k < fs.length) {v : Int32} (he2 : sh x (upd (M id) k v) id = .inr (ci, fs.set k (.int v)))
    (hdg : decode cc pc = .ok (.putfield index, 3)) (kk : ∀ (H : Heap) (locs : List Loc), va_P (xD x) vwCl (wAll x (up2 M id k v)) H → va_S (gF x) s.heap H locs → W p l e R s m args below meth c H locs cells slots Q (F0 m (pc + 3) ls rest)) : W p l e R s m args below meth c H locs cells slots Q (F0 m pc ls (.int v :: .ref (xa x id) :: rest)) :=
  va_putN hx hb hts hin ty0 hty hnm hown hS.1 hP (hS.D M) hV id (wAll_get hid he) hc k hk (va_Nw.use rfl (hS.2.2.2.2.1 _ hlink)) (fun _ h => h) hfin hd rfl rfl hl hdg (fun H1 locs1 hP1 _ hV1 => kk H1 locs1 (by rw [wAll_up2 hid he2] at hP1; exact hP1) hV1)
theorem g_iald (hx : p.tables.exec = Jvm.exec) (hb : c.code = cc) (hS : GS x s) (hP : va_P (xD x) vwCl (wAll x M) H) {id n : Nat} (hid : id < 57) (he : sh x (M id) id = shI x n (M id)) (hn : n < 2 ^ 31) {i : Int32} {j : Nat} (hi : i = nI j) (hj : j < n) (hdg : decode cc pc = .ok (.iaload, 1))
    (kk : W p l e R s m args below meth c H locs cells slots Q (F0 m (pc + 1) ls (.int (M id j) :: rest))) : W p l e R s m args below meth c H locs cells slots Q (F0 m pc ls (.int i :: .ref (xa x id) :: rest)) := by
  subst hi
  refine va_iald hx hb hS.1 hP id 0 (wAll_get hid he) rfl (vp_in_nI hj hn) hdg ?_
  rw [nI_clamp (Nat.lt_trans hj hn)]
  exact kk
theorem g_zald (hx : p.tables.exec = Jvm.exec) (hb : c.code = cc) (hS : GS x s) (hP : va_P (xD x) vwCl (wAll x M) H) {id n : Nat} (hid : id < 57) (he : sh x (M id) id = shZ x n (M id)) (hn : n < 2 ^ 31) {i : Int32} {j : Nat} (hi : i = nI j) (hj : j < n) (hdg : decode cc pc = .ok (.baload, 1))
    (kk : W p l e R s m args below meth c H locs cells slots Q (F0 m (pc + 1) ls (.int (M id j) :: rest))) : W p l e R s m args below meth c H locs cells slots Q (F0 m pc ls (.int i :: .ref (xa x id) :: rest)) := by
  subst hi
  refine va_zald hx hb hS.1 hP id 1 (wAll_get hid he) rfl (vp_in_nI hj hn) hdg ?_
  rw [nI_clamp (Nat.lt_trans hj hn)]
  exact kk
theorem g_lald (hx : p.tables.exec = Jvm.exec) (hb : c.code = cc) (hS : GS x s) (hP : va_P (xD x) vwCl (wAll x M) H) (hdg : decode cc pc = .ok (.laload, 1))
    (kk : W p l e R s m args below meth c H locs cells slots Q (F0 m (pc + 1) ls (.long (M 56 0).toInt64 :: rest))) : W p l e R s m args below meth c H locs cells slots Q (F0 m pc ls (.int 0 :: .ref (xa x 56) :: rest)) := by
  exact va_lald (f := fun j => (M 56 j).toInt64) hx hb hS.1 hP 56 4 (wAll_get (by decide) rfl) rfl (vp_in_nI (n := 0) (N := 1) (by decide) (by decide)) hdg kk
theorem g_aaldR (hx : p.tables.exec = Jvm.exec) (hb : c.code = cc) (hS : GS x s) (hP : va_P (xD x) vwCl (wAll x M) H) {i : Int32} {j : Nat} (hi : i = nI j) (hj : j < 8) (hdg : decode cc pc = .ok (.aaload, 1))
    (kk : W p l e R s m args below meth c H locs cells slots Q (F0 m (pc + 1) ls (.ref (xa x (11 + 3 * j)) :: rest))) : W p l e R s m args below meth c H locs cells slots Q (F0 m pc ls (.int i :: .ref (xa x 1) :: rest)) := by
  subst hi
  refine va_aldq hx hb hS.1 hP 1 2 (wAll_get (by decide) rfl) rfl (vp_in_nI hj (by decide)) hdg ?_
  rw [nI_clamp (Nat.lt_trans hj (by decide))]
  exact kk
theorem g_aaldG (hx : p.tables.exec = Jvm.exec) (hb : c.code = cc) (hS : GS x s) (hP : va_P (xD x) vwCl (wAll x M) H) {i : Int32} {j : Nat} (hi : i = nI j) (hj : j < 5) (hdg : decode cc pc = .ok (.aaload, 1))
    (kk : W p l e R s m args below meth c H locs cells slots Q (F0 m (pc + 1) ls (.ref (xa x (6 + j)) :: rest))) : W p l e R s m args below meth c H locs cells slots Q (F0 m pc ls (.int i :: .ref (xa x 5) :: rest)) := by
  subst hi
  refine va_aldq hx hb hS.1 hP 5 3 (wAll_get (by decide) rfl) rfl (vp_in_nI hj (by decide)) hdg ?_
  rw [nI_clamp (Nat.lt_trans hj (by decide))]
  exact kk
theorem g_iast (hx : p.tables.exec = Jvm.exec) (hb : c.code = cc) (hS : GS x s) (hP : va_P (xD x) vwCl (wAll x M) H) (hV : va_S (gF x) s.heap H locs) {id n : Nat} (hid : id < 57) (he : ∀ r : Nat → Int32, sh x r id = shI x n r) (hn : n < 2 ^ 31) {i v : Int32} {j : Nat} (hi : i = nI j) (hj : j < n) (hdg : decode cc pc = .ok (.iastore, 1))
    (kk : ∀ (H : Heap) (locs : List Loc), va_P (xD x) vwCl (wAll x (up2 M id j v)) H → va_S (gF x) s.heap H locs → W p l e R s m args below meth c H locs cells slots Q (F0 m (pc + 1) ls rest)) : W p l e R s m args below meth c H locs cells slots Q (F0 m pc ls (.int v :: .int i :: .ref (xa x id) :: rest)) := by
  subst hi
  refine va_iast hx hb hS.1 hP (hS.D M) hV id 0 (wAll_get hid (he _)) rfl (vp_in_nI hj hn) hdg (fun H1 locs1 hP1 _ hV1 => kk H1 locs1 ?_ hV1)
  rw [nI_clamp (Nat.lt_trans hj hn), wAll_up2 (e := .inl (xA x 0, n, .inl (upd (M id) j v))) hid (he _)] at hP1
  exact hP1
theorem g_zast (hx : p.tables.exec = Jvm.exec) (hb : c.code = cc) (hS : GS x s) (hP : va_P (xD x) vwCl (wAll x M) H) (hV : va_S (gF x) s.heap H locs) {id n : Nat} (hid : id < 57) (he : ∀ r : Nat → Int32, sh x r id = shZ x n r) (hn : n < 2 ^ 31) {i v : Int32} {j : Nat} (hi : i = nI j) (hj : j < n) (hv : vp_nar .boolean v = v) (hdg : decode cc pc = .ok (.bastore, 1))
    (kk : ∀ (H : Heap) (locs : List Loc), va_P (xD x) vwCl (wAll x (up2 M id j v)) H → va_S (gF x) s.heap H locs → W p l e R s m args below meth c H locs cells slots Q (F0 m (pc + 1) ls rest)) : W p l e R s m args below meth c H locs cells slots Q (F0 m pc ls (.int v :: .int i :: .ref (xa x id) :: rest)) := by
  subst hi
  refine va_zast hx hb hS.1 hP (hS.D M) hV id 1 (wAll_get hid (he _)) rfl (vp_in_nI hj hn) hdg (fun H1 locs1 hP1 _ hV1 => kk H1 locs1 ?_ hV1)
  rw [nI_clamp (Nat.lt_trans hj hn), hv, wAll_up2 (e := .inl (xA x 1, n, .inl (upd (M id) j v))) hid (he _)] at hP1
  exact hP1
theorem g_last (hx : p.tables.exec = Jvm.exec) (hb : c.code = cc) (hS : GS x s) (hP : va_P (xD x) vwCl (wAll x M) H) (hV : va_S (gF x) s.heap H locs) {v : Int32} {w : Int64} (hw : v.toInt64 = w) (hdg : decode cc pc = .ok (.lastore, 1))
    (kk : ∀ (H : Heap) (locs : List Loc), va_P (xD x) vwCl (wAll x (up2 M 56 0 v)) H → va_S (gF x) s.heap H locs → W p l e R s m args below meth c H locs cells slots Q (F0 m (pc + 1) ls rest)) : W p l e R s m args below meth c H locs cells slots Q (F0 m pc ls (.long w :: .int 0 :: .ref (xa x 56) :: rest)) := by
  subst hw
  refine va_last (f := fun j => (M 56 j).toInt64) hx hb hS.1 hP (hS.D M) hV 56 4 (wAll_get (by decide) rfl) rfl (vp_in_nI (n := 0) (N := 1) (by decide) (by decide)) hdg (fun H1 locs1 hP1 _ hV1 => kk H1 locs1 ?_ hV1)
  have e : sh x (upd (M 56) 0 v) 56 = .inl (xA x 4, 1, .inr (.inl (vp_updL (fun j => (M 56 j).toInt64) (0 : Int32).toNatClampNeg v.toInt64))) := by
    have hf : (fun j => (upd (M 56) 0 v j).toInt64) = vp_updL (fun j => (M 56 j).toInt64) (0 : Int32).toNatClampNeg v.toInt64 := by
      funext j
      rw [sb_cl0]
      by_cases h : j = 0 <;> simp [upd, vp_updL, h]
    show (Sum.inl (xA x 4, 1, Sum.inr (Sum.inl fun j => (upd (M 56) 0 v j).toInt64)) : va_E) = _
    rw [hf]
  rw [wAll_up2 (by decide) e] at hP1
  exact hP1
theorem g_copy (hx : p.tables.exec = Jvm.exec) (hb : c.code = cc) (hml : c.maxLocals = ls.size) {own : String} {index : Nat} (hown : s.vm.findClass own = some m.cls) (hlink : (Cond.methodLink own index arraycopyName).before args s = true) (hnat : (Cond.native arraycopyName).before args s = true) (hstat : (Cond.static arraycopyName).before args s = true) (hini : (Cond.initialized "java/lang/System").before args s = true)
    (hS : GS x s) (hP : va_P (xD x) vwCl (wAll x M) H) (hV : va_S (gF x) s.heap H locs) {i0 i1 : Nat} (h0 : i0 < 57) (h1 : i1 < 57) (he0 : ∀ r : Nat → Int32, sh x r i0 = shI x 8 r) (he1 : ∀ r : Nat → Int32, sh x r i1 = shI x 8 r)
    (hframes : 1 ≤ R.frames) (hlocals : (rest.map fun v => v.category).sum + (nativeFrameWords "java/lang/System" "arraycopy" 5 + 11) ≤ R.locals) (hdg : decode cc pc = .ok (.invokestatic index, 3))
    (kk : ∀ (H : Heap) (locs : List Loc), va_P (xD x) vwCl (wAll x (fun a => if a = i1 then (fun k => if k < 8 then M i0 k else M i1 k) else M a)) H → va_S (gF x) s.heap H locs → W p l e R s m args below meth c H locs cells slots Q (F0 m (pc + 3) ls rest)) : W p l e R s m args below meth c H locs cells slots Q (F0 m pc ls (.int 8 :: .int 0 :: .ref (xa x i1) :: .int 0 :: .ref (xa x i0) :: rest)) := by
  refine va_copyi hx hb hml hown hlink hnat hstat hini hS.1 hP (hS.D M) hV i0 i1 0 0 (wAll_get h0 (he0 _)) (wAll_get h1 (he1 _)) rfl rfl rfl (by decide) (by decide) (by decide) (by decide) (by decide) (fun _ _ => rfl) hframes hlocals hdg (fun H1 locs1 hP1 _ hV1 => kk H1 locs1 ?_ hV1)
  have e : va_cpy (M i0) (M i1) (0 : Int32).toNatClampNeg (0 : Int32).toNatClampNeg (8 : Int32).toNatClampNeg = (fun k => if k < 8 then M i0 k else M i1 k) := by
    funext k
    show (if 0 ≤ k ∧ k < 0 + 8 then M i0 (0 + (k - 0)) else M i1 k) = _
    by_cases h : k < 8
    · rw [if_pos ⟨Nat.zero_le _, by omega⟩, if_pos h]; simp
    · rw [if_neg (by omega), if_neg h]
  rw [e, wAll_set (e := .inl (xA x 0, 8, .inl (fun k => if k < 8 then M i0 k else M i1 k))) h1 _ (he1 _)] at hP1
  exact hP1
/-- calls -/
theorem g_recv (hS : GS x s) (hP : va_P (xD x) vwCl (wAll x M) H) {id ci : Nat} {q : vw_C} {fs : List Value} (hid : id < 57) (he : sh x (M id) id = .inr (ci, fs)) (hc : vwCl[ci]? = some q) : ∃ cell : Cell, H[xa x id]? = some cell ∧ cell.vm.isStatics = false ∧ s.vm.findClass q.1 = some cell.cls := va_recv hS.1 hP hc (wAll_get hid he)
theorem g_preS (hS : GS x s) (hZ : GZ x s s.heap) (hP : va_P (xD x) vwCl (wAll x M) H) (hV : va_S (gF x) s.heap H locs) (As : List Value) : PreS s H (gP x M As) As :=
  ⟨gP_blind x M As, fun U hU hW => ⟨rfl, hS.warm hW, by rw [hU]; exact ⟨hP, (g_zk hS hZ hV).moved hW.alike⟩⟩⟩
theorem g_preV (hS : GS x s) (hZ : GZ x s s.heap) (hP : va_P (xD x) vwCl (wAll x M) H) (hV : va_S (gF x) s.heap H locs) (As : List Value) {id ci : Nat} {C : String} {T : u_T} {N : Nat} {fs : List Value} (hid : id < 57) (he : sh x (M id) id = .inr (ci, fs)) (hc : vwCl[ci]? = some (C, T, N)) : PreV s H C (xa x id) (gP x M (.ref (xa x id) :: As)) As :=
  ⟨gP_blind x M _, g_recv hS hP hid he hc, (g_preS hS hZ hP hV (.ref (xa x id) :: As)).2⟩
theorem g_call1 {mc ms : Nat} {v : Value} {M' : Nat → Nat → Int32} {a : Array Value} (hr : va_Run p l e R s m args below meth c H locs cells slots mc ms (F0 m pc ls st0) rest (gQ x (some v) M' a) (gF x)) (hV : va_S (gF x) s.heap H locs)
    (kk : ∀ (H : Heap) (locs : List Loc), va_P (xD x) vwCl (wAll x M') H → va_S (gF x) s.heap H locs → W p l e R s m args below meth c H locs (cells + mc) (slots + ms) Q (F0 m (pc + 3) ls (v :: rest))) : W p l e R s m args below meth c H locs cells slots Q (F0 m pc ls st0) := by
  intro T hT X
  obtain ⟨v', st₀, t, T', L, h0, X', hL, e1, e2, ⟨hv, hG, hF⟩, st⟩ := hr T hT X
  cases hv
  obtain ⟨k1, k2, k3⟩ := vx_keep h0 e1 hV (fun q _ h => h) (fun q h => h) hL hF
  obtain ⟨t2, a1, b1⟩ := kk T'.heap (locs ++ L) (by rw [e1]; exact hG.1) k3 T' rfl X'
  exact ⟨t2, st t2 a1, b1⟩
theorem g_call0 {mc ms : Nat} {M' : Nat → Nat → Int32} {a : Array Value} (hr : va_Run p l e R s m args below meth c H locs cells slots mc ms (F0 m pc ls st0) rest (gQ x none M' a) (gF x)) (hV : va_S (gF x) s.heap H locs)
    (kk : ∀ (H : Heap) (locs : List Loc), va_P (xD x) vwCl (wAll x M') H → va_S (gF x) s.heap H locs → W p l e R s m args below meth c H locs (cells + mc) (slots + ms) Q (F0 m (pc + 3) ls rest)) : W p l e R s m args below meth c H locs cells slots Q (F0 m pc ls st0) := by
  intro T hT X
  obtain ⟨v', st₀, t, T', L, h0, X', hL, e1, e2, ⟨hv, hG, hF⟩, st⟩ := hr T hT X
  cases hv
  obtain ⟨k1, k2, k3⟩ := vx_keep h0 e1 hV (fun q _ h => h) (fun q h => h) hL hF
  obtain ⟨t2, a1, b1⟩ := kk T'.heap (locs ++ L) (by rw [e1]; exact hG.1) k3 T' rfl X'
  exact ⟨t2, st t2 a1, b1⟩
/-- what a method that may throw says -/
def gQx (x : Cx) (err : Option String) (r : Option Value) (M : Nat → Nat → Int32) : Array Value → State → Outcome → State → Prop := fun a st o t => err = none ∧ gQ x r M a st o t
def gX (x : Cx) (err : Option String) (M : Nat → Nat → Int32) : String → State → State → Prop := fun E st t => err = some E ∧ GH x M t t.heap ∧ va_F (gF x) st t
theorem g_xcall1 {mc ms : Nat} {v : Value} {err : Option String} {M' MX : Nat → Nat → Int32} {a : Array Value} (hr : vx_Run p l e R s m args below meth c H locs cells slots mc ms (F0 m pc ls st0) rest (gQx x err (some v) M' a) (gX x err MX) (gF x)) (hV : va_S (gF x) s.heap H locs)
    (kx : ∀ (E : String) (ce : Cell) (q : Addr) (H : Heap) (locs : List Loc), err = some E → va_P (xD x) vwCl (wAll x MX) H → va_S (gF x) s.heap H locs → H[q]? = some ce → ce.vm = .none → s.vm.findClass E = some ce.cls → vx_W p l e R s m args below meth c H locs (cells + mc) (slots + ms) Q (F0 m pc ls rest) q)
    (kk : ∀ (H : Heap) (locs : List Loc), err = none → va_P (xD x) vwCl (wAll x M') H → va_S (gF x) s.heap H locs → W p l e R s m args below meth c H locs (cells + mc) (slots + ms) Q (F0 m (pc + 3) ls (v :: rest))) : W p l e R s m args below meth c H locs cells slots Q (F0 m pc ls st0) := by
  intro T hT X
  rcases hr T hT X with ⟨v', st₀, t, T', L, h0, X', hL, e1, e2, ⟨he, hv, hG, hF⟩, st⟩ | ⟨q, st₀, t, T', L, E, ce, h0, X', hL, e1, e2, ⟨he, hG, hF⟩, hce, hcv, hcl, st⟩
  · cases hv
    obtain ⟨k1, k2, k3⟩ := vx_keep h0 e1 hV (fun q _ h => h) (fun q h => h) hL hF
    obtain ⟨t2, a1, b1⟩ := kk T'.heap (locs ++ L) he (by rw [e1]; exact hG.1) k3 T' rfl X'
    exact ⟨t2, st t2 a1, b1⟩
  · obtain ⟨k1, k2, k3⟩ := vx_keep h0 e1 hV (fun q _ h => h) (fun q h => h) hL hF
    obtain ⟨t2, a1, b1⟩ := kx E ce q T'.heap (locs ++ L) he (by rw [e1]; exact hG.1) k3 (by rw [e1]; exact hce) hcv hcl T' rfl X'
    exact ⟨t2, st.trans a1, b1⟩
theorem g_xcall0 {mc ms : Nat} {err : Option String} {M' MX : Nat → Nat → Int32} {a : Array Value} (hr : vx_Run p l e R s m args below meth c H locs cells slots mc ms (F0 m pc ls st0) rest (gQx x err none M' a) (gX x err MX) (gF x)) (hV : va_S (gF x) s.heap H locs)
    (kx : ∀ (E : String) (ce : Cell) (q : Addr) (H : Heap) (locs : List Loc), err = some E → va_P (xD x) vwCl (wAll x MX) H → va_S (gF x) s.heap H locs → H[q]? = some ce → ce.vm = .none → s.vm.findClass E = some ce.cls → vx_W p l e R s m args below meth c H locs (cells + mc) (slots + ms) Q (F0 m pc ls rest) q)
    (kk : ∀ (H : Heap) (locs : List Loc), err = none → va_P (xD x) vwCl (wAll x M') H → va_S (gF x) s.heap H locs → W p l e R s m args below meth c H locs (cells + mc) (slots + ms) Q (F0 m (pc + 3) ls rest)) : W p l e R s m args below meth c H locs cells slots Q (F0 m pc ls st0) := by
  intro T hT X
  rcases hr T hT X with ⟨v', st₀, t, T', L, h0, X', hL, e1, e2, ⟨he, hv, hG, hF⟩, st⟩ | ⟨q, st₀, t, T', L, E, ce, h0, X', hL, e1, e2, ⟨he, hG, hF⟩, hce, hcv, hcl, st⟩
  · cases hv
    obtain ⟨k1, k2, k3⟩ := vx_keep h0 e1 hV (fun q _ h => h) (fun q h => h) hL hF
    obtain ⟨t2, a1, b1⟩ := kk T'.heap (locs ++ L) he (by rw [e1]; exact hG.1) k3 T' rfl X'
    exact ⟨t2, st t2 a1, b1⟩
  · obtain ⟨k1, k2, k3⟩ := vx_keep h0 e1 hV (fun q _ h => h) (fun q h => h) hL hF
    obtain ⟨t2, a1, b1⟩ := kx E ce q T'.heap (locs ++ L) he (by rw [e1]; exact hG.1) k3 (by rw [e1]; exact hce) hcv hcl T' rfl X'
    exact ⟨t2, st.trans a1, b1⟩
/-- ends -/
theorem g_hq (hS : GS x s) (hZ : GZ x s s.heap) (hP : va_P (xD x) vwCl (wAll x M) H) (hV : va_S (gF x) s.heap H locs) (r : Option Value) (a : Array Value) : ∀ t : State, t.heap = H → s.WarmedH t.vm → gQ x r M a s (.returned r) t := fun t ht hW => ⟨rfl, by rw [ht]; exact ⟨hP, (g_zk hS hZ hV).moved hW.alike⟩, hV.F ht⟩
theorem g_iret {mc ms : Nat} {v r : Int32} {M' : Nat → Nat → Int32} (hx : p.tables.exec = Jvm.exec) (hb : c.code = cc) (hr : meth.sig.returnType = some .int) (hlk : meth.locks = false) (hS : GS x s) (hZ : GZ x s s.heap) (hP : va_P (xD x) vwCl (wAll x M) H) (hV : va_S (gF x) s.heap H locs) (h1 : cells ≤ mc) (h2 : slots ≤ ms) (hdg : decode cc pc = .ok (.ireturn, 1)) (hv : v = r) (hM : M = M') : W p l e R s m args below meth c H locs cells slots (MQ below (gQ x (some (.int r)) M') args s mc ms (gF x)) (F0 m pc ls [.int v]) := by
  subst hv; subst hM
  exact W.widen h1 h2 (W.iret hx hb hr (g_hq hS hZ hP hV _ _) hV.2.2 hdg hlk)
theorem g_zret {mc ms : Nat} {v r : Int32} {M' : Nat → Nat → Int32} (hx : p.tables.exec = Jvm.exec) (hb : c.code = cc) (hr : meth.sig.returnType = some .boolean) (hlk : meth.locks = false) (hS : GS x s) (hZ : GZ x s s.heap) (hP : va_P (xD x) vwCl (wAll x M) H) (hV : va_S (gF x) s.heap H locs) (h1 : cells ≤ mc) (h2 : slots ≤ ms) (hdg : decode cc pc = .ok (.ireturn, 1)) (hn : vp_nar .boolean v = v) (hv : v = r) (hM : M = M') : W p l e R s m args below meth c H locs cells slots (MQ below (gQ x (some (.int r)) M') args s mc ms (gF x)) (F0 m pc ls [.int v]) := by
  subst hv; subst hM
  exact W.widen h1 h2 (W.zret hx hb hr (by have h9 : narrow .boolean (.int v) = .int (vp_nar .boolean v) := rfl; rw [h9, hn]) (g_hq hS hZ hP hV _ _) hV.2.2 hdg hlk)
theorem g_lret {mc ms : Nat} {v r : Int64} {M' : Nat → Nat → Int32} (hx : p.tables.exec = Jvm.exec) (hb : c.code = cc) (hr : meth.sig.returnType = some .long) (hlk : meth.locks = false) (hS : GS x s) (hZ : GZ x s s.heap) (hP : va_P (xD x) vwCl (wAll x M) H) (hV : va_S (gF x) s.heap H locs) (h1 : cells ≤ mc) (h2 : slots ≤ ms) (hdg : decode cc pc = .ok (.lreturn, 1)) (hv : v = r) (hM : M = M') : W p l e R s m args below meth c H locs cells slots (MQ below (gQ x (some (.long r)) M') args s mc ms (gF x)) (F0 m pc ls [.long v]) := by
  subst hv; subst hM
  exact W.widen h1 h2 (W.lret hx hb hr (g_hq hS hZ hP hV _ _) hV.2.2 hdg hlk)
theorem g_vret {mc ms : Nat} {M' : Nat → Nat → Int32} (hx : p.tables.exec = Jvm.exec) (hb : c.code = cc) (hr : meth.sig.returnType = none) (hlk : meth.locks = false) (hS : GS x s) (hZ : GZ x s s.heap) (hP : va_P (xD x) vwCl (wAll x M) H) (hV : va_S (gF x) s.heap H locs) (h1 : cells ≤ mc) (h2 : slots ≤ ms) (hdg : decode cc pc = .ok (.return_, 1)) (hM : M = M') : W p l e R s m args below meth c H locs cells slots (MQ below (gQ x none M') args s mc ms (gF x)) (F0 m pc ls []) := by
  subst hM
  exact W.widen h1 h2 (W.vret hx hb hr (g_hq hS hZ hP hV _ _) hV.2.2 hdg hlk)
theorem g_mqx {err : Option String} {r : Option Value} {M' : Nat → Nat → Int32} {XC : String → State → State → Prop} {mc ms : Nat} {g : JFrame} (he : err = none) (k : W p l e R s m args below meth c H locs cells slots (MQ below (gQ x r M') args s mc ms (gF x)) g) : W p l e R s m args below meth c H locs cells slots (vx_MQ below (gQx x err r M') XC args s mc ms (gF x)) g := by
  refine vx_ret ?_
  intro T hT X
  obtain ⟨t, a1, o, b1, b2, b3, b4⟩ := k T hT X
  exact ⟨t, a1, o, b1, b2, ⟨he, b3⟩, b4⟩
/-- an exception of a callee that this method doesn't catch -/
theorem g_xout {err err' : Option String} {r : Option Value} {M' MX : Nat → Nat → Int32} {mc ms : Nat} (ht : ∀ x ∈ c.exceptionTable.toList, False) (hlk : meth.locks = false) (hS : GS x s) (hZ : GZ x s s.heap) (h1 : cells ≤ mc) (h2 : slots ≤ ms) {E : String} {ce : Cell} {q : Addr} (he : err' = some E) (hM : M = MX) (hP : va_P (xD x) vwCl (wAll x M) H) (hV : va_S (gF x) s.heap H locs) (h3 : H[q]? = some ce) (h4 : ce.vm = .none) (h5 : s.vm.findClass E = some ce.cls) :
    vx_W p l e R s m args below meth c H locs cells slots (vx_MQ below (gQx x err r M') (gX x err' MX) args s mc ms (gF x)) (F0 m pc ls rest) q := by
  subst hM
  exact vx_out (fun z hz => (ht z hz).elim) hlk h3 h4 h5 (fun t htt hA => ⟨he, by rw [htt]; exact ⟨hP, (g_zk hS hZ hV).moved hA⟩, hV.F htt⟩) hV.2.2 h1 h2
end GW
theorem g_met {l : Launch} {y : MethodName} {ws ws' : List Cond} {rm : Room} {x : Cx} {M : Nat → Nat → Int32} {as : List Value} {Qc : Array Value → State → Outcome → State → Prop} {mc ms : Nat} {free : Addr → Prop} {cc : ByteArray} {maxL : Nat} {ret : Option FieldType} (hy : plainName y.cls = true) (hw : ws = Cond.code y cc maxL ret :: ws') (hlen : (lg_sl as).length ≤ maxL)
    (body : ∀ (p : Program) (e : Env) (s : State) (m : MethodId) (below : List Frame) (meth : Method) (c : Code), p.tables.exec = Jvm.exec → c.code = cc → meth.sig.returnType = ret → c.maxLocals = maxL → (∀ w ∈ ws, w.before as.toArray s = true) → s.vm.findClass y.cls = some m.cls → meth.locks = false → GS x s → GZ x s s.heap → va_P (xD x) vwCl (wAll x M) s.heap → va_S (gF x) s.heap s.heap [] → ∀ ls : Array Slot, lv_has ls maxL (lv_args 0 as) →
      W p l e rm s m as.toArray below meth c s.heap [] 0 0 (MQ below Qc as.toArray s mc ms free) (F0 m 0 ls [])) : Met l y ws rm (gP x M as) Qc mc ms free := by
  refine Met.ofW (cc := cc) (maxL := maxL) (ret := ret) hy hw ?_
  intro p e s m args below meth c s₁ B hml hv
  obtain ⟨rfl, hS, hP, hZ⟩ := hv
  rw [lg_entry_eq]
  exact body p e s m below meth c B.exec B.bytes B.returns hml (atoms_spec (ws := ws) B.pre) (findClass_of_methodNamed B.named) B.notSynchronized hS hZ hP va_S.rf _ (lv_entry as hlen)
theorem g_metW {l : Launch} {y : MethodName} {ws ws' : List Cond} {rm : Room} {x : Cx} {M : Nat → Nat → Int32} {as : List Value} {Qc : Array Value → State → Outcome → State → Prop} {mc ms : Nat} {free : Addr → Prop} {cc : ByteArray} {maxL : Nat} {ret : Option FieldType} {hh : List (Nat × Nat × Nat × Nat)} (hy : plainName y.cls = true) (hw : ws = Cond.codeWith y cc maxL ret hh :: ws') (hlen : (lg_sl as).length ≤ maxL)
    (body : ∀ (p : Program) (e : Env) (s : State) (m : MethodId) (below : List Frame) (meth : Method) (c : Code), p.tables.exec = Jvm.exec → c.code = cc → meth.sig.returnType = ret → c.maxLocals = maxL → (∀ w ∈ ws, w.before as.toArray s = true) → s.vm.findClass y.cls = some m.cls → meth.locks = false → c.exceptionTable.toList = tableOf hh → GS x s → GZ x s s.heap → va_P (xD x) vwCl (wAll x M) s.heap → va_S (gF x) s.heap s.heap [] → ∀ ls : Array Slot, lv_has ls maxL (lv_args 0 as) →
      W p l e rm s m as.toArray below meth c s.heap [] 0 0 (MQ below Qc as.toArray s mc ms free) (F0 m 0 ls [])) : Met l y ws rm (gP x M as) Qc mc ms free := by
  refine va_MetW (cc := cc) (maxL := maxL) (ret := ret) hy hw ?_
  intro p e s m args below meth c s₁ B hml hv
  obtain ⟨rfl, hS, hP, hZ⟩ := hv
  rw [lg_entry_eq]
  exact body p e s m below meth c B.exec B.bytes B.returns hml (atoms_spec (ws := ws) B.pre) (findClass_of_methodNamed B.named) B.notSynchronized (vx_table (x := y) B (atoms_spec (ws := ws) B.pre _ (by rw [hw]; exact List.mem_cons_self))) hS hZ hP va_S.rf _ (lv_entry as hlen)
theorem g_metx {l : Launch} {y : MethodName} {ws ws' : List Cond} {rm : Room} {x : Cx} {M : Nat → Nat → Int32} {as : List Value} {Qc : Array Value → State → Outcome → State → Prop} {XC : String → State → State → Prop} {mc ms : Nat} {free : Addr → Prop} {cc : ByteArray} {maxL : Nat} {ret : Option FieldType} (hy : plainName y.cls = true) (hw : ws = Cond.code y cc maxL ret :: ws') (hlen : (lg_sl as).length ≤ maxL)
    (body : ∀ (p : Program) (e : Env) (s : State) (m : MethodId) (below : List Frame) (meth : Method) (c : Code), p.tables.exec = Jvm.exec → c.code = cc → meth.sig.returnType = ret → c.maxLocals = maxL → (∀ w ∈ ws, w.before as.toArray s = true) → s.vm.findClass y.cls = some m.cls → meth.locks = false → (∀ x ∈ c.exceptionTable.toList, False) → GS x s → GZ x s s.heap → va_P (xD x) vwCl (wAll x M) s.heap → va_S (gF x) s.heap s.heap [] → ∀ ls : Array Slot, lv_has ls maxL (lv_args 0 as) →
      W p l e rm s m as.toArray below meth c s.heap [] 0 0 (vx_MQ below Qc XC as.toArray s mc ms free) (F0 m 0 ls [])) : vx_Met l y ws rm (gP x M as) Qc XC mc ms free := by
  refine vx_ofW (cc := cc) (maxL := maxL) (ret := ret) hy hw ?_
  intro p e s m args below meth c s₁ B hml ht hv
  obtain ⟨rfl, hS, hP, hZ⟩ := hv
  rw [lg_entry_eq]
  exact body p e s m below meth c B.exec B.bytes B.returns hml (atoms_spec (ws := ws) B.pre) (findClass_of_methodNamed B.named) B.notSynchronized ht hS hZ hP va_S.rf _ (lv_entry as hlen)
theorem exc_h2_63 : ∀ w ∈ (vx_atS RX2 63 eI excN).filter (fun w => !goodWord w), w ∈ excB eI := by decide +kernel
theorem exc_h2_117 : ∀ w ∈ (vx_atS RX2 117 eA excN).filter (fun w => !goodWord w), w ∈ excB eA := by decide +kernel
theorem exc_h2_194 : ∀ w ∈ (vx_atS RX2 194 eX excN).filter (fun w => !goodWord w), w ∈ excB eX := by decide +kernel
theorem exc_ot_63 : ∀ w ∈ Cond.classLink RX2 59 eI :: Cond.initialized eI :: vx_atS RX2 63 eI excN, vx_ot w = true := by decide +kernel
theorem exc_ot_117 : ∀ w ∈ Cond.classLink RX2 113 eA :: Cond.initialized eA :: vx_atS RX2 117 eA excN, vx_ot w = true := by decide +kernel
theorem exc_ot_194 : ∀ w ∈ Cond.classLink RX2 190 eX :: Cond.initialized eX :: vx_atS RX2 194 eX excN, vx_ot w = true := by decide +kernel
theorem exc_fit : ∀ E ∈ excW, Bundle.fit E = true := by decide +kernel
theorem exc_fitN : ∀ n ∈ excN, Bundle.fit n = true := by decide +kernel
theorem exc_hat {x : Cx} {s : State} {args : Array Value} {ic : Nat} {E : String} (hS : GS x s) (hE : E ∈ excW) (h2 : ∀ w ∈ (vx_atS RX2 ic E excN).filter (fun w => !goodWord w), w ∈ excB E) (h1 : ∀ w ∈ (vx_atS RX2 ic E excN).filter goodWord, w.before args s = true) : ∀ w ∈ vx_atS RX2 ic E excN, w.before args s = true :=
  vx_hat h1 h2 (fun w hw => va_Nw.use (by simp only [excB, List.mem_cons, List.not_mem_nil, or_false] at hw; rcases hw with rfl | rfl | rfl | rfl <;> rfl) (hS.2.2.2.2.2.2.1 E hE w hw))
/-- a throw of the office's own -/
theorem g_throw {p : Program} {l : Launch} {e : Env} {R : Room} {s : State} {m : MethodId} {args : Array Value} {below : List Frame} {meth : Method} {c : Code} {H : Heap} {locs : List Loc} {cells slots : Nat} {cc : ByteArray} {pc : Nat} {ls : Array Slot} {rest : List Value} {x : Cx} {M : Nat → Nat → Int32} {err' : Option String} {r : Option Value} {M' MX : Nat → Nat → Int32} {mc ms ik is ic : Nat} {E text : String}
    (hx : p.tables.exec = Jvm.exec) (hb : c.code = cc) (ht : ∀ x ∈ c.exceptionTable.toList, False) (hlf : l.stackTraces = false) (hown : s.vm.findClass RX2 = some m.cls) (hE : E ∈ excW) (hk : (Cond.classLink RX2 ik E).before args s = true) (hini : (Cond.initialized E).before args s = true) (hstr : (is, text) ∈ strW) (hat : ∀ w ∈ vx_atS RX2 ic E excN, w.before args s = true)
    (hgood : ∀ w ∈ Cond.classLink RX2 ik E :: Cond.initialized E :: vx_atS RX2 ic E excN, vx_ot w = true) (hlk : meth.locks = false) (hS : GS x s) (hZ : GZ x s s.heap) (hP : va_P (xD x) vwCl (wAll x M) H) (hV : va_S (gF x) s.heap H locs) (hsize : ls.size = c.maxLocals)
    (d0 : decode cc pc = .ok (.new ik, 3)) (d3 : decode cc (pc + 3) = .ok (.dup, 1)) (d4 : decode cc (pc + 4) = .ok (.ldc is, 2)) (d6 : decode cc (pc + 6) = .ok (.invokespecial ic, 3)) (d9 : decode cc (pc + 9) = .ok (.athrow, 1))
    (hRframes : 5 < R.frames) (hRlocals : (rest.map fun v => v.category).sum + 82 ≤ R.locals) (hRcells : cells + 1 ≤ R.cells) (hRslots : slots + 6 ≤ R.slots) (hc : cells + 1 ≤ mc) (hs : slots + 6 ≤ ms) (he : err' = some E) (hM : M = MX) :
    W p l e R s m args below meth c H locs cells slots (vx_MQ below (gQx x err' r M') (gX x err' MX) args s mc ms (gF x)) (F0 m pc ls rest) := by
  subst hM
  refine vx_throwS (A := gF x) (names := excN) (sa := xs x is) (text := text) hx hb hlf hown (exc_fit E hE) exc_fitN hk hini (hS.2.2.2.2.2.1 (is, text) hstr) hat hgood hZ.1 hZ.2.1 hV hsize d0 d3 d4 d6 d9 (fun z hz => (ht z hz).elim) hRframes hRlocals hRcells hRslots hlk ?_ hV.2.2 hc hs
  intro t hA hz hq
  have hV2 : va_S (gF x) s.heap t.heap [] := ⟨Nat.le_trans hV.1 hz, fun q h1 h2 => (hq q (Nat.lt_of_lt_of_le h1 hV.1)).trans (hV.2.1 q h1 h2), fun _ h => nomatch h⟩
  exact ⟨he, ⟨hP.kept (fun k q hk => hq q.1 ((hP k q hk).lt)), (g_zk hS hZ hV2).moved hA⟩, ⟨hV2.1, hV2.2.1⟩⟩
section HW
variable {p : Program} {l : Launch} {e : Env} {R : Room} {s : State} {m : MethodId} {args : Array Value} {below : List Frame} {meth : Method} {c : Code} {H : Heap} {locs : List Loc} {cells slots : Nat} {Q : State → Prop} {cc : ByteArray} {pc : Nat} {ls : Array Slot} {rest : List Value}
theorem h_iadd {a b v : Int32} (hx : p.tables.exec = Jvm.exec) (hb : c.code = cc) (hdg : decode cc pc = .ok (.iadd, 1)) (hv : a + b = v) (k : W p l e R s m args below meth c H locs cells slots Q (F0 m (pc + 1) ls (.int v :: rest))) : W p l e R s m args below meth c H locs cells slots Q (F0 m pc ls (.int b :: .int a :: rest)) := lv_iadd hx hb hdg (by rw [hv]; exact k)
theorem h_isub {a b v : Int32} (hx : p.tables.exec = Jvm.exec) (hb : c.code = cc) (hdg : decode cc pc = .ok (.isub, 1)) (hv : a - b = v) (k : W p l e R s m args below meth c H locs cells slots Q (F0 m (pc + 1) ls (.int v :: rest))) : W p l e R s m args below meth c H locs cells slots Q (F0 m pc ls (.int b :: .int a :: rest)) := lv_isub hx hb hdg (by rw [hv]; exact k)
theorem h_imul {a b v : Int32} (hx : p.tables.exec = Jvm.exec) (hb : c.code = cc) (hdg : decode cc pc = .ok (.imul, 1)) (hv : a * b = v) (k : W p l e R s m args below meth c H locs cells slots Q (F0 m (pc + 1) ls (.int v :: rest))) : W p l e R s m args below meth c H locs cells slots Q (F0 m pc ls (.int b :: .int a :: rest)) := lv_imul hx hb hdg (by rw [hv]; exact k)
theorem h_sub (a b : Nat) : nI (a + b) - nI b = nI a := by rw [pk_sub (Nat.le_add_left _ _), Nat.add_sub_cancel]
theorem bI_nar (b : Bool) : vp_nar .boolean (bI b) = bI b := by cases b <;> rfl
theorem bI_0 (b : Bool) : bI b = 0 ↔ b = false := by cases b <;> simp [bI]
theorem h_if_eq_b {b : Bool} (hx : p.tables.exec = Jvm.exec) (hb : c.code = cc) {off : Int} {tgt : Nat} (hdg : decode cc pc = .ok (.ifCond .eq off, 3)) (ht : (pc : Int) + off = (tgt : Int)) (kt : b = false → W p l e R s m args below meth c H locs cells slots Q (F0 m tgt ls rest)) (kf : b = true → W p l e R s m args below meth c H locs cells slots Q (F0 m (pc + 3) ls rest)) : W p l e R s m args below meth c H locs cells slots Q (F0 m pc ls (.int (bI b) :: rest)) :=
  lv_if_eq hx hb hdg ht (fun h => kt ((bI_0 b).mp h)) (fun h => kf (by cases b <;> simp_all [bI]))
theorem h_if_ne_b {b : Bool} (hx : p.tables.exec = Jvm.exec) (hb : c.code = cc) {off : Int} {tgt : Nat} (hdg : decode cc pc = .ok (.ifCond .ne off, 3)) (ht : (pc : Int) + off = (tgt : Int)) (kt : b = true → W p l e R s m args below meth c H locs cells slots Q (F0 m tgt ls rest)) (kf : b = false → W p l e R s m args below meth c H locs cells slots Q (F0 m (pc + 3) ls rest)) : W p l e R s m args below meth c H locs cells slots Q (F0 m pc ls (.int (bI b) :: rest)) :=
  lv_if_ne hx hb hdg ht (fun h => kt (by cases b <;> simp_all [bI])) (fun h => kf (by cases b <;> simp_all [bI]))
theorem h_icmp_lt_n {a b : Nat} (hx : p.tables.exec = Jvm.exec) (hb : c.code = cc) (ha : a < 2 ^ 31) (hb' : b < 2 ^ 31) {off : Int} {tgt : Nat} (hdg : decode cc pc = .ok (.if_icmp .lt off, 3)) (ht : (pc : Int) + off = (tgt : Int)) (kt : a < b → W p l e R s m args below meth c H locs cells slots Q (F0 m tgt ls rest)) (kf : b ≤ a → W p l e R s m args below meth c H locs cells slots Q (F0 m (pc + 3) ls rest)) : W p l e R s m args below meth c H locs cells slots Q (F0 m pc ls (.int (nI b) :: .int (nI a) :: rest)) :=
  lv_icmp_lt hx hb hdg ht (fun h => kt ((nI_ltI ha hb').mp h)) (fun h => kf (Nat.not_lt.mp fun q => h ((nI_ltI ha hb').mpr q)))
theorem h_icmp_ge_n {a b : Nat} (hx : p.tables.exec = Jvm.exec) (hb : c.code = cc) (ha : a < 2 ^ 31) (hb' : b < 2 ^ 31) {off : Int} {tgt : Nat} (hdg : decode cc pc = .ok (.if_icmp .ge off, 3)) (ht : (pc : Int) + off = (tgt : Int)) (kt : b ≤ a → W p l e R s m args below meth c H locs cells slots Q (F0 m tgt ls rest)) (kf : a < b → W p l e R s m args below meth c H locs cells slots Q (F0 m (pc + 3) ls rest)) : W p l e R s m args below meth c H locs cells slots Q (F0 m pc ls (.int (nI b) :: .int (nI a) :: rest)) :=
  lv_icmp_ge hx hb hdg ht (fun h => kt ((nI_leI hb' ha).mp h)) (fun h => kf (Nat.not_le.mp fun q => h ((nI_leI hb' ha).mpr q)))
theorem h_icmp_gt_n {a b : Nat} (hx : p.tables.exec = Jvm.exec) (hb : c.code = cc) (ha : a < 2 ^ 31) (hb' : b < 2 ^ 31) {off : Int} {tgt : Nat} (hdg : decode cc pc = .ok (.if_icmp .gt off, 3)) (ht : (pc : Int) + off = (tgt : Int)) (kt : b < a → W p l e R s m args below meth c H locs cells slots Q (F0 m tgt ls rest)) (kf : a ≤ b → W p l e R s m args below meth c H locs cells slots Q (F0 m (pc + 3) ls rest)) : W p l e R s m args below meth c H locs cells slots Q (F0 m pc ls (.int (nI b) :: .int (nI a) :: rest)) :=
  lv_icmp_gt hx hb hdg ht (fun h => kt ((nI_ltI hb' ha).mp h)) (fun h => kf (Nat.not_lt.mp fun q => h ((nI_ltI hb' ha).mpr q)))
theorem h_icmp_le_n {a b : Nat} (hx : p.tables.exec = Jvm.exec) (hb : c.code = cc) (ha : a < 2 ^ 31) (hb' : b < 2 ^ 31) {off : Int} {tgt : Nat} (hdg : decode cc pc = .ok (.if_icmp .le off, 3)) (ht : (pc : Int) + off = (tgt : Int)) (kt : a ≤ b → W p l e R s m args below meth c H locs cells slots Q (F0 m tgt ls rest)) (kf : b < a → W p l e R s m args below meth c H locs cells slots Q (F0 m (pc + 3) ls rest)) : W p l e R s m args below meth c H locs cells slots Q (F0 m pc ls (.int (nI b) :: .int (nI a) :: rest)) :=
  lv_icmp_le hx hb hdg ht (fun h => kt ((nI_leI ha hb').mp h)) (fun h => kf (Nat.not_le.mp fun q => h ((nI_leI ha hb').mpr q)))
theorem h_icmp_eq_n {a b : Nat} (hx : p.tables.exec = Jvm.exec) (hb : c.code = cc) (ha : a < 2 ^ 31) (hb' : b < 2 ^ 31) {off : Int} {tgt : Nat} (hdg : decode cc pc = .ok (.if_icmp .eq off, 3)) (ht : (pc : Int) + off = (tgt : Int)) (kt : a = b → W p l e R s m args below meth c H locs cells slots Q (F0 m tgt ls rest)) (kf : a ≠ b → W p l e R s m args below meth c H locs cells slots Q (F0 m (pc + 3) ls rest)) : W p l e R s m args below meth c H locs cells slots Q (F0 m pc ls (.int (nI b) :: .int (nI a) :: rest)) :=
  lv_icmp_eq hx hb hdg ht (fun h => kt ((nI_eq ha hb').mp h)) (fun h => kf fun q => h ((nI_eq ha hb').mpr q))
theorem h_icmp_ne_n {a b : Nat} (hx : p.tables.exec = Jvm.exec) (hb : c.code = cc) (ha : a < 2 ^ 31) (hb' : b < 2 ^ 31) {off : Int} {tgt : Nat} (hdg : decode cc pc = .ok (.if_icmp .ne off, 3)) (ht : (pc : Int) + off = (tgt : Int)) (kt : a ≠ b → W p l e R s m args below meth c H locs cells slots Q (F0 m tgt ls rest)) (kf : a = b → W p l e R s m args below meth c H locs cells slots Q (F0 m (pc + 3) ls rest)) : W p l e R s m args below meth c H locs cells slots Q (F0 m pc ls (.int (nI b) :: .int (nI a) :: rest)) :=
  lv_icmp_ne hx hb hdg ht (fun h => kt fun q => h ((nI_eq ha hb').mpr q)) (fun h => kf ((nI_eq ha hb').mp h))
end HW
theorem h_idx {q : Int32} {n : Nat} {r : Int32} (h1 : ¬ q < 0) (h2 : ¬ r ≤ q) (hn : r = nI n) (hn2 : n < 2 ^ 31 := by omega) : ∃ j : Nat, j < n ∧ q = nI j := by
  obtain ⟨j, hj, rfl⟩ := nI_of h1
  subst hn
  exact ⟨j, Nat.not_le.mp fun z => h2 (nI_le z hj), rfl⟩
theorem h_ne0 {x : Int32} (h : ¬ x ≤ 0) : ¬ x = 0 := fun e => h (by rw [e]; decide)
theorem h_min {p : Program} {l : Launch} {e : Env} {R : Room} {s : State} {m : MethodId} {args : Array Value} {below : List Frame} {meth : Method} {c : Code} {H : Heap} {locs : List Loc} {cells slots : Nat} {Q : State → Prop} {cc : ByteArray} {pc : Nat} {ls : Array Slot} {rest : List Value} (hexec : p.tables.exec = Jvm.exec) (hb : c.code = cc) (hml : c.maxLocals = ls.size) {own : String} {index : Nat} (hown : s.vm.findClass own = some m.cls) (hlink : (Cond.methodLink own index Lib.Math.min.name).before args s = true) (hstat : (Cond.static Lib.Math.min.name).before args s = true) (hini : (Cond.initialized "java/lang/Math").before args s = true) (hcode : (Cond.code Lib.Math.min.name Lib.Math.min.code 2 (some .int)).before args s = true)
    (hframes : 1 ≤ R.frames) (hlocals : (rest.map fun v => v.category).sum + 13 ≤ R.locals) (hc : cells ≤ R.cells) (hs : slots ≤ R.slots) {x y : Int32} (hdg : decode cc pc = .ok (.invokestatic index, 3))
    (kk : W p l e R s m args below meth c H locs cells slots Q (F0 m (pc + 3) ls (.int (minI x y) :: rest))) : W p l e R s m args below meth c H locs cells slots Q (F0 m pc ls (.int y :: .int x :: rest)) := va_mmin hexec hb hml hown hlink hstat hini hcode hframes hlocals hc hs hdg kk
theorem h_max {p : Program} {l : Launch} {e : Env} {R : Room} {s : State} {m : MethodId} {args : Array Value} {below : List Frame} {meth : Method} {c : Code} {H : Heap} {locs : List Loc} {cells slots : Nat} {Q : State → Prop} {cc : ByteArray} {pc : Nat} {ls : Array Slot} {rest : List Value} (hexec : p.tables.exec = Jvm.exec) (hb : c.code = cc) (hml : c.maxLocals = ls.size) {own : String} {index : Nat} (hown : s.vm.findClass own = some m.cls) (hlink : (Cond.methodLink own index Lib.Math.max.name).before args s = true) (hstat : (Cond.static Lib.Math.max.name).before args s = true) (hini : (Cond.initialized "java/lang/Math").before args s = true) (hcode : (Cond.code Lib.Math.max.name Lib.Math.max.code 2 (some .int)).before args s = true)
    (hframes : 1 ≤ R.frames) (hlocals : (rest.map fun v => v.category).sum + 13 ≤ R.locals) (hc : cells ≤ R.cells) (hs : slots ≤ R.slots) {x y : Int32} (hdg : decode cc pc = .ok (.invokestatic index, 3))
    (kk : W p l e R s m args below meth c H locs cells slots Q (F0 m (pc + 3) ls (.int (maxI x y) :: rest))) : W p l e R s m args below meth c H locs cells slots Q (F0 m pc ls (.int y :: .int x :: rest)) := va_mmax hexec hb hml hown hlink hstat hini hcode hframes hlocals hc hs hdg kk
theorem h_abs {p : Program} {l : Launch} {e : Env} {R : Room} {s : State} {m : MethodId} {args : Array Value} {below : List Frame} {meth : Method} {c : Code} {H : Heap} {locs : List Loc} {cells slots : Nat} {Q : State → Prop} {cc : ByteArray} {pc : Nat} {ls : Array Slot} {rest : List Value} (hexec : p.tables.exec = Jvm.exec) (hb : c.code = cc) (hml : c.maxLocals = ls.size) {own : String} {index : Nat} (hown : s.vm.findClass own = some m.cls) (hlink : (Cond.methodLink own index Lib.Math.abs.name).before args s = true) (hstat : (Cond.static Lib.Math.abs.name).before args s = true) (hini : (Cond.initialized "java/lang/Math").before args s = true) (hcode : (Cond.code Lib.Math.abs.name Lib.Math.abs.code 1 (some .int)).before args s = true)
    (hframes : 1 ≤ R.frames) (hlocals : (rest.map fun v => v.category).sum + 13 ≤ R.locals) (hc : cells ≤ R.cells) (hs : slots ≤ R.slots) {x : Int32} (hdg : decode cc pc = .ok (.invokestatic index, 3))
    (kk : W p l e R s m args below meth c H locs cells slots Q (F0 m (pc + 3) ls (.int (absI x) :: rest))) : W p l e R s m args below meth c H locs cells slots Q (F0 m pc ls (.int x :: rest)) := va_mabs hexec hb hml hown hlink hstat hini hcode hframes hlocals hc hs hdg kk
end
section
set_option maxHeartbeats 4000000 in
set_option maxRecDepth 100000 in
theorem c_X1_width (l : Launch) (x : Cx) (M : Nat → Nat → Int32) (i k : Nat) (hi : i < 9) (hk : k + 1 < 8) : Met l yX1_width wsX1_width ({ frames := 0, cells := 0, slots := 0, locals := 0 }) (gP x M [.ref (xa x (11 + 3 * i)), .int (nI k)]) (gQ x (some (.int (wd (M (11 + 3 * i + 1)) k))) M) 0 0 (gF x) := by
  refine g_met (cc := cX1_width) (maxL := 2) (ret := some .int) (by decide) rfl (Nat.le_of_ble_eq_true rfl) ?_
  intro p e s m below meth c hx hb hr hml hts hown hlk hS hZ hP hV ls hl
  have hl : lv_has ls 2 [(0, .ref (xa x (11 + 3 * i))), (1, .int (nI k))] := hl
  have hw_f9 := hts (.fieldLink RX1 9 "CableOffice$Route" "x" "[I") (by decide +kernel)
  have hinX1 : ∀ w ∈ wsX10, w ∈ wsX1_width := by decide +kernel
  refine lv_aload_n hx hb dX1_width_0 rfl (lv_at hl 0 rfl) ?_
  refine g_get (C := RX1) (T := TX1) (N := 3) (v := .ref (xa x (11 + 3 * i + 1))) hx hb hts hinX1 hown hS hP (id := 11 + 3 * i) (by omega) (sh_r x _ (by omega)) rfl 0 (by decide) hw_f9 rfl dX1_width_1 ?_
  refine lv_iload_n hx hb dX1_width_4 rfl (lv_at hl 1 rfl) ?_
  refine lv_iconst (v := 1) hx hb dX1_width_5 (by decide) ?_
  refine h_iadd (v := nI (k + 1)) hx hb dX1_width_6 (nI_add (k) (1)) ?_
  refine g_iald (j := k + 1) hx hb hS hP (id := 11 + 3 * i + 1) (by omega) ((fun r => sh_x x r (by omega)) _) (by decide) rfl (by omega) dX1_width_7 ?_
  refine lv_aload_n hx hb dX1_width_8 rfl (lv_at hl 0 rfl) ?_
  refine g_get (C := RX1) (T := TX1) (N := 3) (v := .ref (xa x (11 + 3 * i + 1))) hx hb hts hinX1 hown hS hP (id := 11 + 3 * i) (by omega) (sh_r x _ (by omega)) rfl 0 (by decide) hw_f9 rfl dX1_width_9 ?_
  refine lv_iload_n hx hb dX1_width_12 rfl (lv_at hl 1 rfl) ?_
  refine g_iald (j := k) hx hb hS hP (id := 11 + 3 * i + 1) (by omega) ((fun r => sh_x x r (by omega)) _) (by decide) rfl (by omega) dX1_width_13 ?_
  refine lv_isub hx hb dX1_width_14 ?_
  exact g_iret hx hb hr hlk hS hZ hP hV (Nat.le_of_ble_eq_true rfl) (Nat.le_of_ble_eq_true rfl) dX1_width_15 (by rfl) (by rfl)
set_option maxHeartbeats 4000000 in
set_option maxRecDepth 100000 in
theorem c_X1_height (l : Launch) (x : Cx) (M : Nat → Nat → Int32) (i k : Nat) (hi : i < 9) (hk : k + 1 < 8) : Met l yX1_height wsX1_height ({ frames := 0, cells := 0, slots := 0, locals := 0 }) (gP x M [.ref (xa x (11 + 3 * i)), .int (nI k)]) (gQ x (some (.int (wd (M (11 + 3 * i + 2)) k))) M) 0 0 (gF x) := by
  refine g_met (cc := cX1_height) (maxL := 2) (ret := some .int) (by decide) rfl (Nat.le_of_ble_eq_true rfl) ?_
  intro p e s m below meth c hx hb hr hml hts hown hlk hS hZ hP hV ls hl
  have hl : lv_has ls 2 [(0, .ref (xa x (11 + 3 * i))), (1, .int (nI k))] := hl
  have hw_f15 := hts (.fieldLink RX1 15 "CableOffice$Route" "y" "[I") (by decide +kernel)
  have hinX1 : ∀ w ∈ wsX10, w ∈ wsX1_height := by decide +kernel
  refine lv_aload_n hx hb dX1_height_0 rfl (lv_at hl 0 rfl) ?_
  refine g_get (C := RX1) (T := TX1) (N := 3) (v := .ref (xa x (11 + 3 * i + 2))) hx hb hts hinX1 hown hS hP (id := 11 + 3 * i) (by omega) (sh_r x _ (by omega)) rfl 1 (by decide) hw_f15 rfl dX1_height_1 ?_
  refine lv_iload_n hx hb dX1_height_4 rfl (lv_at hl 1 rfl) ?_
  refine lv_iconst (v := 1) hx hb dX1_height_5 (by decide) ?_
  refine h_iadd (v := nI (k + 1)) hx hb dX1_height_6 (nI_add (k) (1)) ?_
  refine g_iald (j := k + 1) hx hb hS hP (id := 11 + 3 * i + 2) (by omega) ((fun r => sh_y x r (by omega)) _) (by decide) rfl (by omega) dX1_height_7 ?_
  refine lv_aload_n hx hb dX1_height_8 rfl (lv_at hl 0 rfl) ?_
  refine g_get (C := RX1) (T := TX1) (N := 3) (v := .ref (xa x (11 + 3 * i + 2))) hx hb hts hinX1 hown hS hP (id := 11 + 3 * i) (by omega) (sh_r x _ (by omega)) rfl 1 (by decide) hw_f15 rfl dX1_height_9 ?_
  refine lv_iload_n hx hb dX1_height_12 rfl (lv_at hl 1 rfl) ?_
  refine g_iald (j := k) hx hb hS hP (id := 11 + 3 * i + 2) (by omega) ((fun r => sh_y x r (by omega)) _) (by decide) rfl (by omega) dX1_height_13 ?_
  refine lv_isub hx hb dX1_height_14 ?_
  exact g_iret hx hb hr hlk hS hZ hP hV (Nat.le_of_ble_eq_true rfl) (Nat.le_of_ble_eq_true rfl) dX1_height_15 (by rfl) (by rfl)
set_option maxHeartbeats 4000000 in
set_option maxRecDepth 100000 in
theorem c_X1_leftOf (l : Launch) (x : Cx) (M : Nat → Nat → Int32) (i k : Nat) (hi : i < 9) (hk : k + 1 < 8) : Met l yX1_leftOf wsX1_leftOf ({ frames := 1, cells := 0, slots := 0, locals := 21 }) (gP x M [.ref (xa x (11 + 3 * i)), .int (nI k)]) (gQ x (some (.int (loO (M (11 + 3 * i + 1)) k))) M) 0 0 (gF x) := by
  refine g_met (cc := cX1_leftOf) (maxL := 2) (ret := some .int) (by decide) rfl (Nat.le_of_ble_eq_true rfl) ?_
  intro p e s m below meth c hx hb hr hml hts hown hlk hS hZ hP hV ls hl
  have hl : lv_has ls 2 [(0, .ref (xa x (11 + 3 * i))), (1, .int (nI k))] := hl
  have hw_f9 := hts (.fieldLink RX1 9 "CableOffice$Route" "x" "[I") (by decide +kernel)
  have hinX1 : ∀ w ∈ wsX10, w ∈ wsX1_leftOf := by decide +kernel
  have hw_m35 := hts (.methodLink RX1 35 Lib.Math.min.name) (by decide +kernel)
  have hw_smin := hts (.static Lib.Math.min.name) (by decide +kernel)
  have hw_iMath := hts (.initialized "java/lang/Math") (by decide +kernel)
  have hw_cmin := hts (.code Lib.Math.min.name Lib.Math.min.code 2 (some .int)) (by decide +kernel)
  refine lv_aload_n hx hb dX1_leftOf_0 rfl (lv_at hl 0 rfl) ?_
  refine g_get (C := RX1) (T := TX1) (N := 3) (v := .ref (xa x (11 + 3 * i + 1))) hx hb hts hinX1 hown hS hP (id := 11 + 3 * i) (by omega) (sh_r x _ (by omega)) rfl 0 (by decide) hw_f9 rfl dX1_leftOf_1 ?_
  refine lv_iload_n hx hb dX1_leftOf_4 rfl (lv_at hl 1 rfl) ?_
  refine g_iald (j := k) hx hb hS hP (id := 11 + 3 * i + 1) (by omega) ((fun r => sh_x x r (by omega)) _) (by decide) rfl (by omega) dX1_leftOf_5 ?_
  refine lv_aload_n hx hb dX1_leftOf_6 rfl (lv_at hl 0 rfl) ?_
  refine g_get (C := RX1) (T := TX1) (N := 3) (v := .ref (xa x (11 + 3 * i + 1))) hx hb hts hinX1 hown hS hP (id := 11 + 3 * i) (by omega) (sh_r x _ (by omega)) rfl 0 (by decide) hw_f9 rfl dX1_leftOf_7 ?_
  refine lv_iload_n hx hb dX1_leftOf_10 rfl (lv_at hl 1 rfl) ?_
  refine lv_iconst (v := 1) hx hb dX1_leftOf_11 (by decide) ?_
  refine h_iadd (v := nI (k + 1)) hx hb dX1_leftOf_12 (nI_add (k) (1)) ?_
  refine g_iald (j := k + 1) hx hb hS hP (id := 11 + 3 * i + 1) (by omega) ((fun r => sh_x x r (by omega)) _) (by decide) rfl (by omega) dX1_leftOf_13 ?_
  refine h_min hx hb (hml.trans hl.1.symm) hown hw_m35 hw_smin hw_iMath hw_cmin (Nat.le_of_ble_eq_true rfl) (Nat.le_of_ble_eq_true rfl) (Nat.le_of_ble_eq_true rfl) (Nat.le_of_ble_eq_true rfl) dX1_leftOf_14 ?_
  exact g_iret hx hb hr hlk hS hZ hP hV (Nat.le_of_ble_eq_true rfl) (Nat.le_of_ble_eq_true rfl) dX1_leftOf_17 (by rfl) (by rfl)
set_option maxHeartbeats 4000000 in
set_option maxRecDepth 100000 in
theorem c_X1_rightOf (l : Launch) (x : Cx) (M : Nat → Nat → Int32) (i k : Nat) (hi : i < 9) (hk : k + 1 < 8) : Met l yX1_rightOf wsX1_rightOf ({ frames := 1, cells := 0, slots := 0, locals := 21 }) (gP x M [.ref (xa x (11 + 3 * i)), .int (nI k)]) (gQ x (some (.int (hiO (M (11 + 3 * i + 1)) k))) M) 0 0 (gF x) := by
  refine g_met (cc := cX1_rightOf) (maxL := 2) (ret := some .int) (by decide) rfl (Nat.le_of_ble_eq_true rfl) ?_
  intro p e s m below meth c hx hb hr hml hts hown hlk hS hZ hP hV ls hl
  have hl : lv_has ls 2 [(0, .ref (xa x (11 + 3 * i))), (1, .int (nI k))] := hl
  have hw_f9 := hts (.fieldLink RX1 9 "CableOffice$Route" "x" "[I") (by decide +kernel)
  have hinX1 : ∀ w ∈ wsX10, w ∈ wsX1_rightOf := by decide +kernel
  have hw_m41 := hts (.methodLink RX1 41 Lib.Math.max.name) (by decide +kernel)
  have hw_smax := hts (.static Lib.Math.max.name) (by decide +kernel)
  have hw_iMath := hts (.initialized "java/lang/Math") (by decide +kernel)
  have hw_cmax := hts (.code Lib.Math.max.name Lib.Math.max.code 2 (some .int)) (by decide +kernel)
  refine lv_aload_n hx hb dX1_rightOf_0 rfl (lv_at hl 0 rfl) ?_
  refine g_get (C := RX1) (T := TX1) (N := 3) (v := .ref (xa x (11 + 3 * i + 1))) hx hb hts hinX1 hown hS hP (id := 11 + 3 * i) (by omega) (sh_r x _ (by omega)) rfl 0 (by decide) hw_f9 rfl dX1_rightOf_1 ?_
  refine lv_iload_n hx hb dX1_rightOf_4 rfl (lv_at hl 1 rfl) ?_
  refine g_iald (j := k) hx hb hS hP (id := 11 + 3 * i + 1) (by omega) ((fun r => sh_x x r (by omega)) _) (by decide) rfl (by omega) dX1_rightOf_5 ?_
  refine lv_aload_n hx hb dX1_rightOf_6 rfl (lv_at hl 0 rfl) ?_
  refine g_get (C := RX1) (T := TX1) (N := 3) (v := .ref (xa x (11 + 3 * i + 1))) hx hb hts hinX1 hown hS hP (id := 11 + 3 * i) (by omega) (sh_r x _ (by omega)) rfl 0 (by decide) hw_f9 rfl dX1_rightOf_7 ?_
  refine lv_iload_n hx hb dX1_rightOf_10 rfl (lv_at hl 1 rfl) ?_
  refine lv_iconst (v := 1) hx hb dX1_rightOf_11 (by decide) ?_
  refine h_iadd (v := nI (k + 1)) hx hb dX1_rightOf_12 (nI_add (k) (1)) ?_
  refine g_iald (j := k + 1) hx hb hS hP (id := 11 + 3 * i + 1) (by omega) ((fun r => sh_x x r (by omega)) _) (by decide) rfl (by omega) dX1_rightOf_13 ?_
  refine h_max hx hb (hml.trans hl.1.symm) hown hw_m41 hw_smax hw_iMath hw_cmax (Nat.le_of_ble_eq_true rfl) (Nat.le_of_ble_eq_true rfl) (Nat.le_of_ble_eq_true rfl) (Nat.le_of_ble_eq_true rfl) dX1_rightOf_14 ?_
  exact g_iret hx hb hr hlk hS hZ hP hV (Nat.le_of_ble_eq_true rfl) (Nat.le_of_ble_eq_true rfl) dX1_rightOf_17 (by rfl) (by rfl)
set_option maxHeartbeats 4000000 in
set_option maxRecDepth 100000 in
theorem c_X1_lowOf (l : Launch) (x : Cx) (M : Nat → Nat → Int32) (i k : Nat) (hi : i < 9) (hk : k + 1 < 8) : Met l yX1_lowOf wsX1_lowOf ({ frames := 1, cells := 0, slots := 0, locals := 21 }) (gP x M [.ref (xa x (11 + 3 * i)), .int (nI k)]) (gQ x (some (.int (loO (M (11 + 3 * i + 2)) k))) M) 0 0 (gF x) := by
  refine g_met (cc := cX1_lowOf) (maxL := 2) (ret := some .int) (by decide) rfl (Nat.le_of_ble_eq_true rfl) ?_
  intro p e s m below meth c hx hb hr hml hts hown hlk hS hZ hP hV ls hl
  have hl : lv_has ls 2 [(0, .ref (xa x (11 + 3 * i))), (1, .int (nI k))] := hl
  have hw_f15 := hts (.fieldLink RX1 15 "CableOffice$Route" "y" "[I") (by decide +kernel)
  have hinX1 : ∀ w ∈ wsX10, w ∈ wsX1_lowOf := by decide +kernel
  have hw_m35 := hts (.methodLink RX1 35 Lib.Math.min.name) (by decide +kernel)
  have hw_smin := hts (.static Lib.Math.min.name) (by decide +kernel)
  have hw_iMath := hts (.initialized "java/lang/Math") (by decide +kernel)
  have hw_cmin := hts (.code Lib.Math.min.name Lib.Math.min.code 2 (some .int)) (by decide +kernel)
  refine lv_aload_n hx hb dX1_lowOf_0 rfl (lv_at hl 0 rfl) ?_
  refine g_get (C := RX1) (T := TX1) (N := 3) (v := .ref (xa x (11 + 3 * i + 2))) hx hb hts hinX1 hown hS hP (id := 11 + 3 * i) (by omega) (sh_r x _ (by omega)) rfl 1 (by decide) hw_f15 rfl dX1_lowOf_1 ?_
  refine lv_iload_n hx hb dX1_lowOf_4 rfl (lv_at hl 1 rfl) ?_
  refine g_iald (j := k) hx hb hS hP (id := 11 + 3 * i + 2) (by omega) ((fun r => sh_y x r (by omega)) _) (by decide) rfl (by omega) dX1_lowOf_5 ?_
  refine lv_aload_n hx hb dX1_lowOf_6 rfl (lv_at hl 0 rfl) ?_
  refine g_get (C := RX1) (T := TX1) (N := 3) (v := .ref (xa x (11 + 3 * i + 2))) hx hb hts hinX1 hown hS hP (id := 11 + 3 * i) (by omega) (sh_r x _ (by omega)) rfl 1 (by decide) hw_f15 rfl dX1_lowOf_7 ?_
  refine lv_iload_n hx hb dX1_lowOf_10 rfl (lv_at hl 1 rfl) ?_
  refine lv_iconst (v := 1) hx hb dX1_lowOf_11 (by decide) ?_
  refine h_iadd (v := nI (k + 1)) hx hb dX1_lowOf_12 (nI_add (k) (1)) ?_
  refine g_iald (j := k + 1) hx hb hS hP (id := 11 + 3 * i + 2) (by omega) ((fun r => sh_y x r (by omega)) _) (by decide) rfl (by omega) dX1_lowOf_13 ?_
  refine h_min hx hb (hml.trans hl.1.symm) hown hw_m35 hw_smin hw_iMath hw_cmin (Nat.le_of_ble_eq_true rfl) (Nat.le_of_ble_eq_true rfl) (Nat.le_of_ble_eq_true rfl) (Nat.le_of_ble_eq_true rfl) dX1_lowOf_14 ?_
  exact g_iret hx hb hr hlk hS hZ hP hV (Nat.le_of_ble_eq_true rfl) (Nat.le_of_ble_eq_true rfl) dX1_lowOf_17 (by rfl) (by rfl)
set_option maxHeartbeats 4000000 in
set_option maxRecDepth 100000 in
theorem c_X1_highOf (l : Launch) (x : Cx) (M : Nat → Nat → Int32) (i k : Nat) (hi : i < 9) (hk : k + 1 < 8) : Met l yX1_highOf wsX1_highOf ({ frames := 1, cells := 0, slots := 0, locals := 21 }) (gP x M [.ref (xa x (11 + 3 * i)), .int (nI k)]) (gQ x (some (.int (hiO (M (11 + 3 * i + 2)) k))) M) 0 0 (gF x) := by
  refine g_met (cc := cX1_highOf) (maxL := 2) (ret := some .int) (by decide) rfl (Nat.le_of_ble_eq_true rfl) ?_
  intro p e s m below meth c hx hb hr hml hts hown hlk hS hZ hP hV ls hl
  have hl : lv_has ls 2 [(0, .ref (xa x (11 + 3 * i))), (1, .int (nI k))] := hl
  have hw_f15 := hts (.fieldLink RX1 15 "CableOffice$Route" "y" "[I") (by decide +kernel)
  have hinX1 : ∀ w ∈ wsX10, w ∈ wsX1_highOf := by decide +kernel
  have hw_m41 := hts (.methodLink RX1 41 Lib.Math.max.name) (by decide +kernel)
  have hw_smax := hts (.static Lib.Math.max.name) (by decide +kernel)
  have hw_iMath := hts (.initialized "java/lang/Math") (by decide +kernel)
  have hw_cmax := hts (.code Lib.Math.max.name Lib.Math.max.code 2 (some .int)) (by decide +kernel)
  refine lv_aload_n hx hb dX1_highOf_0 rfl (lv_at hl 0 rfl) ?_
  refine g_get (C := RX1) (T := TX1) (N := 3) (v := .ref (xa x (11 + 3 * i + 2))) hx hb hts hinX1 hown hS hP (id := 11 + 3 * i) (by omega) (sh_r x _ (by omega)) rfl 1 (by decide) hw_f15 rfl dX1_highOf_1 ?_
  refine lv_iload_n hx hb dX1_highOf_4 rfl (lv_at hl 1 rfl) ?_
  refine g_iald (j := k) hx hb hS hP (id := 11 + 3 * i + 2) (by omega) ((fun r => sh_y x r (by omega)) _) (by decide) rfl (by omega) dX1_highOf_5 ?_
  refine lv_aload_n hx hb dX1_highOf_6 rfl (lv_at hl 0 rfl) ?_
  refine g_get (C := RX1) (T := TX1) (N := 3) (v := .ref (xa x (11 + 3 * i + 2))) hx hb hts hinX1 hown hS hP (id := 11 + 3 * i) (by omega) (sh_r x _ (by omega)) rfl 1 (by decide) hw_f15 rfl dX1_highOf_7 ?_
  refine lv_iload_n hx hb dX1_highOf_10 rfl (lv_at hl 1 rfl) ?_
  refine lv_iconst (v := 1) hx hb dX1_highOf_11 (by decide) ?_
  refine h_iadd (v := nI (k + 1)) hx hb dX1_highOf_12 (nI_add (k) (1)) ?_
  refine g_iald (j := k + 1) hx hb hS hP (id := 11 + 3 * i + 2) (by omega) ((fun r => sh_y x r (by omega)) _) (by decide) rfl (by omega) dX1_highOf_13 ?_
  refine h_max hx hb (hml.trans hl.1.symm) hown hw_m41 hw_smax hw_iMath hw_cmax (Nat.le_of_ble_eq_true rfl) (Nat.le_of_ble_eq_true rfl) (Nat.le_of_ble_eq_true rfl) (Nat.le_of_ble_eq_true rfl) dX1_highOf_14 ?_
  exact g_iret hx hb hr hlk hS hZ hP hV (Nat.le_of_ble_eq_true rfl) (Nat.le_of_ble_eq_true rfl) dX1_highOf_17 (by rfl) (by rfl)
set_option maxHeartbeats 4000000 in
set_option maxRecDepth 100000 in
theorem c_X1_pieces (l : Launch) (x : Cx) (M : Nat → Nat → Int32) (i n : Nat) (hi : i < 9) (hn : M (11 + 3 * i) 2 = nI (n + 1)) : Met l yX1_pieces wsX1_pieces ({ frames := 0, cells := 0, slots := 0, locals := 0 }) (gP x M [.ref (xa x (11 + 3 * i))]) (gQ x (some (.int (nI n))) M) 0 0 (gF x) := by
  refine g_met (cc := cX1_pieces) (maxL := 1) (ret := some .int) (by decide) rfl (Nat.le_of_ble_eq_true rfl) ?_
  intro p e s m below meth c hx hb hr hml hts hown hlk hS hZ hP hV ls hl
  have hl : lv_has ls 1 [(0, .ref (xa x (11 + 3 * i)))] := hl
  have hw_f18 := hts (.fieldLink RX1 18 "CableOffice$Route" "points" "I") (by decide +kernel)
  have hinX1 : ∀ w ∈ wsX10, w ∈ wsX1_pieces := by decide +kernel
  refine lv_aload_n hx hb dX1_pieces_0 rfl (lv_at hl 0 rfl) ?_
  refine g_get (C := RX1) (T := TX1) (N := 3) (v := .int (nI (n + 1))) hx hb hts hinX1 hown hS hP (id := 11 + 3 * i) (by omega) (sh_r x _ (by omega)) rfl 2 (by decide) hw_f18 (congrArg (fun z => some (Value.int z)) hn) dX1_pieces_1 ?_
  refine lv_iconst (v := 1) hx hb dX1_pieces_4 (by decide) ?_
  refine h_isub (v := nI n) hx hb dX1_pieces_5 (h_sub n 1) ?_
  exact g_iret hx hb hr hlk hS hZ hP hV (Nat.le_of_ble_eq_true rfl) (Nat.le_of_ble_eq_true rfl) dX1_pieces_6 (by rfl) (by rfl)
set_option maxHeartbeats 4000000 in
set_option maxRecDepth 100000 in
theorem c_X1_sideOf (l : Launch) (x : Cx) (M : Nat → Nat → Int32) (i k : Nat) (px py : Int32) (hi : i < 9) (hk : k + 1 < 8) : Met l yX1_sideOf wsX1_sideOf ({ frames := 1, cells := 0, slots := 0, locals := 21 }) (gP x M [.ref (xa x (11 + 3 * i)), .int (nI k), .int px, .int py]) (gQ x (some (.int (sideO (M (11 + 3 * i + 1)) (M (11 + 3 * i + 2)) k px py))) M) 0 0 (gF x) := by
  refine g_met (cc := cX1_sideOf) (maxL := 4) (ret := some .int) (by decide) rfl (Nat.le_of_ble_eq_true rfl) ?_
  intro p e s m below meth c hx hb hr hml hts hown hlk hS hZ hP hV ls hl
  have hl : lv_has ls 4 [(0, .ref (xa x (11 + 3 * i))), (1, .int (nI k)), (2, .int px), (3, .int py)] := hl
  have hw_f15 := hts (.fieldLink RX1 15 "CableOffice$Route" "y" "[I") (by decide +kernel)
  have hinX1 : ∀ w ∈ wsX10, w ∈ wsX1_sideOf := by decide +kernel
  have hw_f9 := hts (.fieldLink RX1 9 "CableOffice$Route" "x" "[I") (by decide +kernel)
  refine lv_aload_n hx hb dX1_sideOf_0 rfl (lv_at hl 0 rfl) ?_
  refine lv_iload_n hx hb dX1_sideOf_1 rfl (lv_at hl 1 rfl) ?_
  refine g_call1 (va_runV (As := [.int (nI k)]) (rest := []) ⟨hx, hb, hml, hown, hts⟩ (c_X1_width l x M i k (by omega) (by omega)) (cwV 1 hts gX1_sideOf_X1_width rfl rfl rfl (by decide +kernel) ⟨Nat.le_of_ble_eq_true rfl, Nat.le_of_ble_eq_true rfl⟩) (g_preV hS hZ hP hV [.int (nI k)] (id := 11 + 3 * i) (by omega) (sh_r x _ (by omega)) rfl) rfl rfl hl.1 rfl (lv_room (Nat.le_of_ble_eq_true rfl)) dX1_sideOf_2 ⟨Nat.le_of_ble_eq_true rfl, Nat.le_of_ble_eq_true rfl⟩) hV (fun H locs hP hV => ?_)
  refine lv_iload_n hx hb dX1_sideOf_5 rfl (lv_at hl 3 rfl) ?_
  refine lv_aload_n hx hb dX1_sideOf_6 rfl (lv_at hl 0 rfl) ?_
  refine g_get (C := RX1) (T := TX1) (N := 3) (v := .ref (xa x (11 + 3 * i + 2))) hx hb hts hinX1 hown hS hP (id := 11 + 3 * i) (by omega) (sh_r x _ (by omega)) rfl 1 (by decide) hw_f15 rfl dX1_sideOf_7 ?_
  refine lv_iload_n hx hb dX1_sideOf_10 rfl (lv_at hl 1 rfl) ?_
  refine g_iald (j := k) hx hb hS hP (id := 11 + 3 * i + 2) (by omega) ((fun r => sh_y x r (by omega)) _) (by decide) rfl (by omega) dX1_sideOf_11 ?_
  refine lv_isub hx hb dX1_sideOf_12 ?_
  refine lv_imul hx hb dX1_sideOf_13 ?_
  refine lv_aload_n hx hb dX1_sideOf_14 rfl (lv_at hl 0 rfl) ?_
  refine lv_iload_n hx hb dX1_sideOf_15 rfl (lv_at hl 1 rfl) ?_
  refine g_call1 (va_runV (As := [.int (nI k)]) (rest := [.int ((wd (M (11 + 3 * i + 1)) k) * (py - (M (11 + 3 * i + 2) k)))]) ⟨hx, hb, hml, hown, hts⟩ (c_X1_height l x M i k (by omega) (by omega)) (cwV 1 hts gX1_sideOf_X1_height rfl rfl rfl (by decide +kernel) ⟨Nat.le_of_ble_eq_true rfl, Nat.le_of_ble_eq_true rfl⟩) (g_preV hS hZ hP hV [.int (nI k)] (id := 11 + 3 * i) (by omega) (sh_r x _ (by omega)) rfl) rfl rfl hl.1 rfl (lv_room (Nat.le_of_ble_eq_true rfl)) dX1_sideOf_16 ⟨Nat.le_of_ble_eq_true rfl, Nat.le_of_ble_eq_true rfl⟩) hV (fun H locs hP hV => ?_)
  refine lv_iload_n hx hb dX1_sideOf_19 rfl (lv_at hl 2 rfl) ?_
  refine lv_aload_n hx hb dX1_sideOf_20 rfl (lv_at hl 0 rfl) ?_
  refine g_get (C := RX1) (T := TX1) (N := 3) (v := .ref (xa x (11 + 3 * i + 1))) hx hb hts hinX1 hown hS hP (id := 11 + 3 * i) (by omega) (sh_r x _ (by omega)) rfl 0 (by decide) hw_f9 rfl dX1_sideOf_21 ?_
  refine lv_iload_n hx hb dX1_sideOf_24 rfl (lv_at hl 1 rfl) ?_
  refine g_iald (j := k) hx hb hS hP (id := 11 + 3 * i + 1) (by omega) ((fun r => sh_x x r (by omega)) _) (by decide) rfl (by omega) dX1_sideOf_25 ?_
  refine lv_isub hx hb dX1_sideOf_26 ?_
  refine lv_imul hx hb dX1_sideOf_27 ?_
  refine lv_isub hx hb dX1_sideOf_28 ?_
  exact g_iret hx hb hr hlk hS hZ hP hV (Nat.le_of_ble_eq_true rfl) (Nat.le_of_ble_eq_true rfl) dX1_sideOf_29 (by rfl) (by rfl)
set_option maxHeartbeats 4000000 in
set_option maxRecDepth 100000 in
theorem c_X1_boxMeets (l : Launch) (x : Cx) (M : Nat → Nat → Int32) (i k : Nat) (le lo ri hh : Int32) (hi : i < 9) (hk : k + 1 < 8) : Met l yX1_boxMeets wsX1_boxMeets ({ frames := 2, cells := 0, slots := 0, locals := 42 }) (gP x M [.ref (xa x (11 + 3 * i)), .int (nI k), .int le, .int lo, .int ri, .int hh]) (gQ x (some (.int (bI (boxO (M (11 + 3 * i + 1)) (M (11 + 3 * i + 2)) k le lo ri hh)))) M) 0 0 (gF x) := by
  refine g_met (cc := cX1_boxMeets) (maxL := 6) (ret := some .boolean) (by decide) rfl (Nat.le_of_ble_eq_true rfl) ?_
  intro p e s m below meth c hx hb hr hml hts hown hlk hS hZ hP hV ls hl
  have hl : lv_has ls 6 [(0, .ref (xa x (11 + 3 * i))), (1, .int (nI k)), (2, .int le), (3, .int lo), (4, .int ri), (5, .int hh)] := hl
  refine lv_aload_n hx hb dX1_boxMeets_0 rfl (lv_at hl 0 rfl) ?_
  refine lv_iload_n hx hb dX1_boxMeets_1 rfl (lv_at hl 1 rfl) ?_
  refine g_call1 (va_runV (As := [.int (nI k)]) (rest := []) ⟨hx, hb, hml, hown, hts⟩ (c_X1_leftOf l x M i k (by omega) (by omega)) (cwV 1 hts gX1_boxMeets_X1_leftOf rfl rfl rfl (by decide +kernel) ⟨Nat.le_of_ble_eq_true rfl, Nat.le_of_ble_eq_true rfl⟩) (g_preV hS hZ hP hV [.int (nI k)] (id := 11 + 3 * i) (by omega) (sh_r x _ (by omega)) rfl) rfl rfl hl.1 rfl (lv_room (Nat.le_of_ble_eq_true rfl)) dX1_boxMeets_2 ⟨Nat.le_of_ble_eq_true rfl, Nat.le_of_ble_eq_true rfl⟩) hV (fun H locs hP hV => ?_)
  refine lv_iload hx hb dX1_boxMeets_5 (lv_at hl 4 rfl) ?_
  refine lv_icmp_gt (tgt := 42) hx hb dX1_boxMeets_7 (by decide) (fun c_1 => ?_) (fun c_1 => ?_)
  · -- taken
    refine lv_iconst (v := 0) hx hb dX1_boxMeets_42 (by decide) ?_
    exact g_zret hx hb hr hlk hS hZ hP hV (Nat.le_of_ble_eq_true rfl) (Nat.le_of_ble_eq_true rfl) dX1_boxMeets_43 (by decide) (by simp [boxO, bI, c_1]) (by rfl)
  · -- on
    refine lv_aload_n hx hb dX1_boxMeets_10 rfl (lv_at hl 0 rfl) ?_
    refine lv_iload_n hx hb dX1_boxMeets_11 rfl (lv_at hl 1 rfl) ?_
    refine g_call1 (va_runV (As := [.int (nI k)]) (rest := []) ⟨hx, hb, hml, hown, hts⟩ (c_X1_rightOf l x M i k (by omega) (by omega)) (cwV 1 hts gX1_boxMeets_X1_rightOf rfl rfl rfl (by decide +kernel) ⟨Nat.le_of_ble_eq_true rfl, Nat.le_of_ble_eq_true rfl⟩) (g_preV hS hZ hP hV [.int (nI k)] (id := 11 + 3 * i) (by omega) (sh_r x _ (by omega)) rfl) rfl rfl hl.1 rfl (lv_room (Nat.le_of_ble_eq_true rfl)) dX1_boxMeets_12 ⟨Nat.le_of_ble_eq_true rfl, Nat.le_of_ble_eq_true rfl⟩) hV (fun H locs hP hV => ?_)
    refine lv_iload_n hx hb dX1_boxMeets_15 rfl (lv_at hl 2 rfl) ?_
    refine lv_icmp_lt (tgt := 42) hx hb dX1_boxMeets_16 (by decide) (fun c_2 => ?_) (fun c_2 => ?_)
    · -- taken
      refine lv_iconst (v := 0) hx hb dX1_boxMeets_42 (by decide) ?_
      exact g_zret hx hb hr hlk hS hZ hP hV (Nat.le_of_ble_eq_true rfl) (Nat.le_of_ble_eq_true rfl) dX1_boxMeets_43 (by decide) (by simp [boxO, bI, c_1, c_2]) (by rfl)
    · -- on
      refine lv_aload_n hx hb dX1_boxMeets_19 rfl (lv_at hl 0 rfl) ?_
      refine lv_iload_n hx hb dX1_boxMeets_20 rfl (lv_at hl 1 rfl) ?_
      refine g_call1 (va_runV (As := [.int (nI k)]) (rest := []) ⟨hx, hb, hml, hown, hts⟩ (c_X1_lowOf l x M i k (by omega) (by omega)) (cwV 1 hts gX1_boxMeets_X1_lowOf rfl rfl rfl (by decide +kernel) ⟨Nat.le_of_ble_eq_true rfl, Nat.le_of_ble_eq_true rfl⟩) (g_preV hS hZ hP hV [.int (nI k)] (id := 11 + 3 * i) (by omega) (sh_r x _ (by omega)) rfl) rfl rfl hl.1 rfl (lv_room (Nat.le_of_ble_eq_true rfl)) dX1_boxMeets_21 ⟨Nat.le_of_ble_eq_true rfl, Nat.le_of_ble_eq_true rfl⟩) hV (fun H locs hP hV => ?_)
      refine lv_iload hx hb dX1_boxMeets_24 (lv_at hl 5 rfl) ?_
      refine lv_icmp_gt (tgt := 42) hx hb dX1_boxMeets_26 (by decide) (fun c_3 => ?_) (fun c_3 => ?_)
      · -- taken
        refine lv_iconst (v := 0) hx hb dX1_boxMeets_42 (by decide) ?_
        exact g_zret hx hb hr hlk hS hZ hP hV (Nat.le_of_ble_eq_true rfl) (Nat.le_of_ble_eq_true rfl) dX1_boxMeets_43 (by decide) (by simp [boxO, bI, c_1, c_2, c_3]) (by rfl)
      · -- on
        refine lv_aload_n hx hb dX1_boxMeets_29 rfl (lv_at hl 0 rfl) ?_
        refine lv_iload_n hx hb dX1_boxMeets_30 rfl (lv_at hl 1 rfl) ?_
        refine g_call1 (va_runV (As := [.int (nI k)]) (rest := []) ⟨hx, hb, hml, hown, hts⟩ (c_X1_highOf l x M i k (by omega) (by omega)) (cwV 1 hts gX1_boxMeets_X1_highOf rfl rfl rfl (by decide +kernel) ⟨Nat.le_of_ble_eq_true rfl, Nat.le_of_ble_eq_true rfl⟩) (g_preV hS hZ hP hV [.int (nI k)] (id := 11 + 3 * i) (by omega) (sh_r x _ (by omega)) rfl) rfl rfl hl.1 rfl (lv_room (Nat.le_of_ble_eq_true rfl)) dX1_boxMeets_31 ⟨Nat.le_of_ble_eq_true rfl, Nat.le_of_ble_eq_true rfl⟩) hV (fun H locs hP hV => ?_)
        refine lv_iload_n hx hb dX1_boxMeets_34 rfl (lv_at hl 3 rfl) ?_
        refine lv_icmp_lt (tgt := 42) hx hb dX1_boxMeets_35 (by decide) (fun c_4 => ?_) (fun c_4 => ?_)
        · -- taken
          refine lv_iconst (v := 0) hx hb dX1_boxMeets_42 (by decide) ?_
          exact g_zret hx hb hr hlk hS hZ hP hV (Nat.le_of_ble_eq_true rfl) (Nat.le_of_ble_eq_true rfl) dX1_boxMeets_43 (by decide) (by simp [boxO, bI, c_1, c_2, c_3, c_4]) (by rfl)
        · -- on
          refine lv_iconst (v := 1) hx hb dX1_boxMeets_38 (by decide) ?_
          refine lv_goto (tgt := 43) hx hb dX1_boxMeets_39 (by decide) ?_
          exact g_zret hx hb hr hlk hS hZ hP hV (Nat.le_of_ble_eq_true rfl) (Nat.le_of_ble_eq_true rfl) dX1_boxMeets_43 (by decide) (by simp [boxO, bI, c_1, c_2, c_3, c_4]) (by rfl)
set_option maxHeartbeats 4000000 in
set_option maxRecDepth 100000 in
theorem c_X1_lineDivides (l : Launch) (x : Cx) (M : Nat → Nat → Int32) (i k j u : Nat) (hi : i < 9) (hk : k + 1 < 8) (hj : j < 9) (hu : u + 1 < 8) : Met l yX1_lineDivides wsX1_lineDivides ({ frames := 2, cells := 0, slots := 0, locals := 44 }) (gP x M [.ref (xa x (11 + 3 * i)), .int (nI k), .ref (xa x (11 + 3 * j)), .int (nI u)]) (gQ x (some (.int (bI (divO (M (11 + 3 * i + 1)) (M (11 + 3 * i + 2)) k (M (11 + 3 * j + 1)) (M (11 + 3 * j + 2)) u)))) M) 0 0 (gF x) := by
  refine g_met (cc := cX1_lineDivides) (maxL := 6) (ret := some .boolean) (by decide) rfl (Nat.le_of_ble_eq_true rfl) ?_
  intro p e s m below meth c hx hb hr hml hts hown hlk hS hZ hP hV ls hl
  have hl : lv_has ls 6 [(0, .ref (xa x (11 + 3 * i))), (1, .int (nI k)), (2, .ref (xa x (11 + 3 * j))), (3, .int (nI u))] := hl
  have hw_f9 := hts (.fieldLink RX1 9 "CableOffice$Route" "x" "[I") (by decide +kernel)
  have hinX1 : ∀ w ∈ wsX10, w ∈ wsX1_lineDivides := by decide +kernel
  have hw_f15 := hts (.fieldLink RX1 15 "CableOffice$Route" "y" "[I") (by decide +kernel)
  have hw_m35 := hts (.methodLink RX1 35 Lib.Math.min.name) (by decide +kernel)
  have hw_smin := hts (.static Lib.Math.min.name) (by decide +kernel)
  have hw_iMath := hts (.initialized "java/lang/Math") (by decide +kernel)
  have hw_cmin := hts (.code Lib.Math.min.name Lib.Math.min.code 2 (some .int)) (by decide +kernel)
  have hw_m41 := hts (.methodLink RX1 41 Lib.Math.max.name) (by decide +kernel)
  have hw_smax := hts (.static Lib.Math.max.name) (by decide +kernel)
  have hw_cmax := hts (.code Lib.Math.max.name Lib.Math.max.code 2 (some .int)) (by decide +kernel)
  refine lv_aload_n hx hb dX1_lineDivides_0 rfl (lv_at hl 0 rfl) ?_
  refine lv_iload_n hx hb dX1_lineDivides_1 rfl (lv_at hl 1 rfl) ?_
  refine lv_aload_n hx hb dX1_lineDivides_2 rfl (lv_at hl 2 rfl) ?_
  refine g_get (C := RX1) (T := TX1) (N := 3) (v := .ref (xa x (11 + 3 * j + 1))) hx hb hts hinX1 hown hS hP (id := 11 + 3 * j) (by omega) (sh_r x _ (by omega)) rfl 0 (by decide) hw_f9 rfl dX1_lineDivides_3 ?_
  refine lv_iload_n hx hb dX1_lineDivides_6 rfl (lv_at hl 3 rfl) ?_
  refine g_iald (j := u) hx hb hS hP (id := 11 + 3 * j + 1) (by omega) ((fun r => sh_x x r (by omega)) _) (by decide) rfl (by omega) dX1_lineDivides_7 ?_
  refine lv_aload_n hx hb dX1_lineDivides_8 rfl (lv_at hl 2 rfl) ?_
  refine g_get (C := RX1) (T := TX1) (N := 3) (v := .ref (xa x (11 + 3 * j + 2))) hx hb hts hinX1 hown hS hP (id := 11 + 3 * j) (by omega) (sh_r x _ (by omega)) rfl 1 (by decide) hw_f15 rfl dX1_lineDivides_9 ?_
  refine lv_iload_n hx hb dX1_lineDivides_12 rfl (lv_at hl 3 rfl) ?_
  refine g_iald (j := u) hx hb hS hP (id := 11 + 3 * j + 2) (by omega) ((fun r => sh_y x r (by omega)) _) (by decide) rfl (by omega) dX1_lineDivides_13 ?_
  refine g_call1 (va_runV (As := [.int (nI k), .int (M (11 + 3 * j + 1) u), .int (M (11 + 3 * j + 2) u)]) (rest := []) ⟨hx, hb, hml, hown, hts⟩ (c_X1_sideOf l x M i k (M (11 + 3 * j + 1) u) (M (11 + 3 * j + 2) u) (by omega) (by omega)) (cwV 3 hts gX1_lineDivides_X1_sideOf rfl rfl rfl (by decide +kernel) ⟨Nat.le_of_ble_eq_true rfl, Nat.le_of_ble_eq_true rfl⟩) (g_preV hS hZ hP hV [.int (nI k), .int (M (11 + 3 * j + 1) u), .int (M (11 + 3 * j + 2) u)] (id := 11 + 3 * i) (by omega) (sh_r x _ (by omega)) rfl) rfl rfl hl.1 rfl (lv_room (Nat.le_of_ble_eq_true rfl)) dX1_lineDivides_14 ⟨Nat.le_of_ble_eq_true rfl, Nat.le_of_ble_eq_true rfl⟩) hV (fun H locs hP hV => ?_)
  refine lv_istore (lv' := [(4, .int (sideO (M (11 + 3 * i + 1)) (M (11 + 3 * i + 2)) k (M (11 + 3 * j + 1) u) (M (11 + 3 * j + 2) u))), (0, .ref (xa x (11 + 3 * i))), (1, .int (nI k)), (2, .ref (xa x (11 + 3 * j))), (3, .int (nI u))]) hx hb dX1_lineDivides_17 hl (by decide) rfl (fun ls hl => ?_)
  refine lv_aload_n hx hb dX1_lineDivides_19 rfl (lv_at hl 1 rfl) ?_
  refine lv_iload_n hx hb dX1_lineDivides_20 rfl (lv_at hl 2 rfl) ?_
  refine lv_aload_n hx hb dX1_lineDivides_21 rfl (lv_at hl 3 rfl) ?_
  refine g_get (C := RX1) (T := TX1) (N := 3) (v := .ref (xa x (11 + 3 * j + 1))) hx hb hts hinX1 hown hS hP (id := 11 + 3 * j) (by omega) (sh_r x _ (by omega)) rfl 0 (by decide) hw_f9 rfl dX1_lineDivides_22 ?_
  refine lv_iload_n hx hb dX1_lineDivides_25 rfl (lv_at hl 4 rfl) ?_
  refine lv_iconst (v := 1) hx hb dX1_lineDivides_26 (by decide) ?_
  refine h_iadd (v := nI (u + 1)) hx hb dX1_lineDivides_27 (nI_add (u) (1)) ?_
  refine g_iald (j := u + 1) hx hb hS hP (id := 11 + 3 * j + 1) (by omega) ((fun r => sh_x x r (by omega)) _) (by decide) rfl (by omega) dX1_lineDivides_28 ?_
  refine lv_aload_n hx hb dX1_lineDivides_29 rfl (lv_at hl 3 rfl) ?_
  refine g_get (C := RX1) (T := TX1) (N := 3) (v := .ref (xa x (11 + 3 * j + 2))) hx hb hts hinX1 hown hS hP (id := 11 + 3 * j) (by omega) (sh_r x _ (by omega)) rfl 1 (by decide) hw_f15 rfl dX1_lineDivides_30 ?_
  refine lv_iload_n hx hb dX1_lineDivides_33 rfl (lv_at hl 4 rfl) ?_
  refine lv_iconst (v := 1) hx hb dX1_lineDivides_34 (by decide) ?_
  refine h_iadd (v := nI (u + 1)) hx hb dX1_lineDivides_35 (nI_add (u) (1)) ?_
  refine g_iald (j := u + 1) hx hb hS hP (id := 11 + 3 * j + 2) (by omega) ((fun r => sh_y x r (by omega)) _) (by decide) rfl (by omega) dX1_lineDivides_36 ?_
  refine g_call1 (va_runV (As := [.int (nI k), .int (M (11 + 3 * j + 1) (u + 1)), .int (M (11 + 3 * j + 2) (u + 1))]) (rest := []) ⟨hx, hb, hml, hown, hts⟩ (c_X1_sideOf l x M i k (M (11 + 3 * j + 1) (u + 1)) (M (11 + 3 * j + 2) (u + 1)) (by omega) (by omega)) (cwV 3 hts gX1_lineDivides_X1_sideOf rfl rfl rfl (by decide +kernel) ⟨Nat.le_of_ble_eq_true rfl, Nat.le_of_ble_eq_true rfl⟩) (g_preV hS hZ hP hV [.int (nI k), .int (M (11 + 3 * j + 1) (u + 1)), .int (M (11 + 3 * j + 2) (u + 1))] (id := 11 + 3 * i) (by omega) (sh_r x _ (by omega)) rfl) rfl rfl hl.1 rfl (lv_room (Nat.le_of_ble_eq_true rfl)) dX1_lineDivides_37 ⟨Nat.le_of_ble_eq_true rfl, Nat.le_of_ble_eq_true rfl⟩) hV (fun H locs hP hV => ?_)
  refine lv_istore (lv' := [(5, .int (sideO (M (11 + 3 * i + 1)) (M (11 + 3 * i + 2)) k (M (11 + 3 * j + 1) (u + 1)) (M (11 + 3 * j + 2) (u + 1)))), (4, .int (sideO (M (11 + 3 * i + 1)) (M (11 + 3 * i + 2)) k (M (11 + 3 * j + 1) u) (M (11 + 3 * j + 2) u))), (0, .ref (xa x (11 + 3 * i))), (1, .int (nI k)), (2, .ref (xa x (11 + 3 * j))), (3, .int (nI u))]) hx hb dX1_lineDivides_40 hl (by decide) rfl (fun ls hl => ?_)
  refine lv_iload hx hb dX1_lineDivides_42 (lv_at hl 1 rfl) ?_
  refine lv_iload hx hb dX1_lineDivides_44 (lv_at hl 0 rfl) ?_
  refine h_min hx hb (hml.trans hl.1.symm) hown hw_m35 hw_smin hw_iMath hw_cmin (Nat.le_of_ble_eq_true rfl) (Nat.le_of_ble_eq_true rfl) (Nat.le_of_ble_eq_true rfl) (Nat.le_of_ble_eq_true rfl) dX1_lineDivides_46 ?_
  refine lv_if_gt (tgt := 66) hx hb dX1_lineDivides_49 (by decide) (fun c_1 => ?_) (fun c_1 => ?_)
  · -- taken
    refine lv_iconst (v := 0) hx hb dX1_lineDivides_66 (by decide) ?_
    exact g_zret hx hb hr hlk hS hZ hP hV (Nat.le_of_ble_eq_true rfl) (Nat.le_of_ble_eq_true rfl) dX1_lineDivides_67 (by decide) (by simp [divO, bI, c_1]) (by rfl)
  · -- on
    refine lv_iload hx hb dX1_lineDivides_52 (lv_at hl 1 rfl) ?_
    refine lv_iload hx hb dX1_lineDivides_54 (lv_at hl 0 rfl) ?_
    refine h_max hx hb (hml.trans hl.1.symm) hown hw_m41 hw_smax hw_iMath hw_cmax (Nat.le_of_ble_eq_true rfl) (Nat.le_of_ble_eq_true rfl) (Nat.le_of_ble_eq_true rfl) (Nat.le_of_ble_eq_true rfl) dX1_lineDivides_56 ?_
    refine lv_if_lt (tgt := 66) hx hb dX1_lineDivides_59 (by decide) (fun c_2 => ?_) (fun c_2 => ?_)
    · -- taken
      refine lv_iconst (v := 0) hx hb dX1_lineDivides_66 (by decide) ?_
      exact g_zret hx hb hr hlk hS hZ hP hV (Nat.le_of_ble_eq_true rfl) (Nat.le_of_ble_eq_true rfl) dX1_lineDivides_67 (by decide) (by simp [divO, bI, c_1, c_2]) (by rfl)
    · -- on
      refine lv_iconst (v := 1) hx hb dX1_lineDivides_62 (by decide) ?_
      refine lv_goto (tgt := 67) hx hb dX1_lineDivides_63 (by decide) ?_
      exact g_zret hx hb hr hlk hS hZ hP hV (Nat.le_of_ble_eq_true rfl) (Nat.le_of_ble_eq_true rfl) dX1_lineDivides_67 (by decide) (by simp [divO, bI, c_1, c_2]) (by rfl)
set_option maxHeartbeats 4000000 in
set_option maxRecDepth 100000 in
theorem c_X1_pieceIsSteepTo (l : Launch) (x : Cx) (M : Nat → Nat → Int32) (i k j u : Nat) (hi : i < 9) (hk : k + 1 < 8) (hj : j < 9) (hu : u + 1 < 8) : Met l yX1_pieceIsSteepTo wsX1_pieceIsSteepTo ({ frames := 1, cells := 0, slots := 0, locals := 21 }) (gP x M [.ref (xa x (11 + 3 * i)), .int (nI k), .ref (xa x (11 + 3 * j)), .int (nI u)]) (gQ x (some (.int (bI (stO (M (11 + 3 * i + 1)) (M (11 + 3 * i + 2)) k (M (11 + 3 * j + 1)) (M (11 + 3 * j + 2)) u)))) M) 0 0 (gF x) := by
  refine g_met (cc := cX1_pieceIsSteepTo) (maxL := 8) (ret := some .boolean) (by decide) rfl (Nat.le_of_ble_eq_true rfl) ?_
  intro p e s m below meth c hx hb hr hml hts hown hlk hS hZ hP hV ls hl
  have hl : lv_has ls 8 [(0, .ref (xa x (11 + 3 * i))), (1, .int (nI k)), (2, .ref (xa x (11 + 3 * j))), (3, .int (nI u))] := hl
  have hw_m68 := hts (.methodLink RX1 68 Lib.Math.abs.name) (by decide +kernel)
  have hw_sabs := hts (.static Lib.Math.abs.name) (by decide +kernel)
  have hw_iMath := hts (.initialized "java/lang/Math") (by decide +kernel)
  have hw_cabs := hts (.code Lib.Math.abs.name Lib.Math.abs.code 1 (some .int)) (by decide +kernel)
  refine lv_aload_n hx hb dX1_pieceIsSteepTo_0 rfl (lv_at hl 0 rfl) ?_
  refine lv_iload_n hx hb dX1_pieceIsSteepTo_1 rfl (lv_at hl 1 rfl) ?_
  refine g_call1 (va_runV (As := [.int (nI k)]) (rest := []) ⟨hx, hb, hml, hown, hts⟩ (c_X1_width l x M i k (by omega) (by omega)) (cwV 1 hts gX1_pieceIsSteepTo_X1_width rfl rfl rfl (by decide +kernel) ⟨Nat.le_of_ble_eq_true rfl, Nat.le_of_ble_eq_true rfl⟩) (g_preV hS hZ hP hV [.int (nI k)] (id := 11 + 3 * i) (by omega) (sh_r x _ (by omega)) rfl) rfl rfl hl.1 rfl (lv_room (Nat.le_of_ble_eq_true rfl)) dX1_pieceIsSteepTo_2 ⟨Nat.le_of_ble_eq_true rfl, Nat.le_of_ble_eq_true rfl⟩) hV (fun H locs hP hV => ?_)
  refine lv_istore (lv' := [(4, .int (wd (M (11 + 3 * i + 1)) k)), (0, .ref (xa x (11 + 3 * i))), (1, .int (nI k)), (2, .ref (xa x (11 + 3 * j))), (3, .int (nI u))]) hx hb dX1_pieceIsSteepTo_5 hl (by decide) rfl (fun ls hl => ?_)
  refine lv_aload_n hx hb dX1_pieceIsSteepTo_7 rfl (lv_at hl 1 rfl) ?_
  refine lv_iload_n hx hb dX1_pieceIsSteepTo_8 rfl (lv_at hl 2 rfl) ?_
  refine g_call1 (va_runV (As := [.int (nI k)]) (rest := []) ⟨hx, hb, hml, hown, hts⟩ (c_X1_height l x M i k (by omega) (by omega)) (cwV 1 hts gX1_pieceIsSteepTo_X1_height rfl rfl rfl (by decide +kernel) ⟨Nat.le_of_ble_eq_true rfl, Nat.le_of_ble_eq_true rfl⟩) (g_preV hS hZ hP hV [.int (nI k)] (id := 11 + 3 * i) (by omega) (sh_r x _ (by omega)) rfl) rfl rfl hl.1 rfl (lv_room (Nat.le_of_ble_eq_true rfl)) dX1_pieceIsSteepTo_9 ⟨Nat.le_of_ble_eq_true rfl, Nat.le_of_ble_eq_true rfl⟩) hV (fun H locs hP hV => ?_)
  refine lv_istore (lv' := [(5, .int (wd (M (11 + 3 * i + 2)) k)), (4, .int (wd (M (11 + 3 * i + 1)) k)), (0, .ref (xa x (11 + 3 * i))), (1, .int (nI k)), (2, .ref (xa x (11 + 3 * j))), (3, .int (nI u))]) hx hb dX1_pieceIsSteepTo_12 hl (by decide) rfl (fun ls hl => ?_)
  refine lv_aload_n hx hb dX1_pieceIsSteepTo_14 rfl (lv_at hl 4 rfl) ?_
  refine lv_iload_n hx hb dX1_pieceIsSteepTo_15 rfl (lv_at hl 5 rfl) ?_
  refine g_call1 (va_runV (As := [.int (nI u)]) (rest := []) ⟨hx, hb, hml, hown, hts⟩ (c_X1_width l x M j u (by omega) (by omega)) (cwV 1 hts gX1_pieceIsSteepTo_X1_width rfl rfl rfl (by decide +kernel) ⟨Nat.le_of_ble_eq_true rfl, Nat.le_of_ble_eq_true rfl⟩) (g_preV hS hZ hP hV [.int (nI u)] (id := 11 + 3 * j) (by omega) (sh_r x _ (by omega)) rfl) rfl rfl hl.1 rfl (lv_room (Nat.le_of_ble_eq_true rfl)) dX1_pieceIsSteepTo_16 ⟨Nat.le_of_ble_eq_true rfl, Nat.le_of_ble_eq_true rfl⟩) hV (fun H locs hP hV => ?_)
  refine lv_istore (lv' := [(6, .int (wd (M (11 + 3 * j + 1)) u)), (5, .int (wd (M (11 + 3 * i + 2)) k)), (4, .int (wd (M (11 + 3 * i + 1)) k)), (0, .ref (xa x (11 + 3 * i))), (1, .int (nI k)), (2, .ref (xa x (11 + 3 * j))), (3, .int (nI u))]) hx hb dX1_pieceIsSteepTo_19 hl (by decide) rfl (fun ls hl => ?_)
  refine lv_aload_n hx hb dX1_pieceIsSteepTo_21 rfl (lv_at hl 5 rfl) ?_
  refine lv_iload_n hx hb dX1_pieceIsSteepTo_22 rfl (lv_at hl 6 rfl) ?_
  refine g_call1 (va_runV (As := [.int (nI u)]) (rest := []) ⟨hx, hb, hml, hown, hts⟩ (c_X1_height l x M j u (by omega) (by omega)) (cwV 1 hts gX1_pieceIsSteepTo_X1_height rfl rfl rfl (by decide +kernel) ⟨Nat.le_of_ble_eq_true rfl, Nat.le_of_ble_eq_true rfl⟩) (g_preV hS hZ hP hV [.int (nI u)] (id := 11 + 3 * j) (by omega) (sh_r x _ (by omega)) rfl) rfl rfl hl.1 rfl (lv_room (Nat.le_of_ble_eq_true rfl)) dX1_pieceIsSteepTo_23 ⟨Nat.le_of_ble_eq_true rfl, Nat.le_of_ble_eq_true rfl⟩) hV (fun H locs hP hV => ?_)
  refine lv_istore (lv' := [(7, .int (wd (M (11 + 3 * j + 2)) u)), (6, .int (wd (M (11 + 3 * j + 1)) u)), (5, .int (wd (M (11 + 3 * i + 2)) k)), (4, .int (wd (M (11 + 3 * i + 1)) k)), (0, .ref (xa x (11 + 3 * i))), (1, .int (nI k)), (2, .ref (xa x (11 + 3 * j))), (3, .int (nI u))]) hx hb dX1_pieceIsSteepTo_26 hl (by decide) rfl (fun ls hl => ?_)
  refine lv_iload hx hb dX1_pieceIsSteepTo_28 (lv_at hl 3 rfl) ?_
  refine lv_iload hx hb dX1_pieceIsSteepTo_30 (lv_at hl 1 rfl) ?_
  refine lv_imul hx hb dX1_pieceIsSteepTo_32 ?_
  refine lv_iload hx hb dX1_pieceIsSteepTo_33 (lv_at hl 2 rfl) ?_
  refine lv_iload hx hb dX1_pieceIsSteepTo_35 (lv_at hl 0 rfl) ?_
  refine lv_imul hx hb dX1_pieceIsSteepTo_37 ?_
  refine lv_iadd hx hb dX1_pieceIsSteepTo_38 ?_
  refine h_abs hx hb (hml.trans hl.1.symm) hown hw_m68 hw_sabs hw_iMath hw_cabs (Nat.le_of_ble_eq_true rfl) (Nat.le_of_ble_eq_true rfl) (Nat.le_of_ble_eq_true rfl) (Nat.le_of_ble_eq_true rfl) dX1_pieceIsSteepTo_39 ?_
  refine lv_iload hx hb dX1_pieceIsSteepTo_42 (lv_at hl 3 rfl) ?_
  refine lv_iload hx hb dX1_pieceIsSteepTo_44 (lv_at hl 0 rfl) ?_
  refine lv_imul hx hb dX1_pieceIsSteepTo_46 ?_
  refine lv_iload hx hb dX1_pieceIsSteepTo_47 (lv_at hl 2 rfl) ?_
  refine lv_iload hx hb dX1_pieceIsSteepTo_49 (lv_at hl 1 rfl) ?_
  refine lv_imul hx hb dX1_pieceIsSteepTo_51 ?_
  refine lv_isub hx hb dX1_pieceIsSteepTo_52 ?_
  refine h_abs hx hb (hml.trans hl.1.symm) hown hw_m68 hw_sabs hw_iMath hw_cabs (Nat.le_of_ble_eq_true rfl) (Nat.le_of_ble_eq_true rfl) (Nat.le_of_ble_eq_true rfl) (Nat.le_of_ble_eq_true rfl) dX1_pieceIsSteepTo_53 ?_
  refine lv_icmp_gt (tgt := 63) hx hb dX1_pieceIsSteepTo_56 (by decide) (fun c_1 => ?_) (fun c_1 => ?_)
  · -- taken
    refine lv_iconst (v := 0) hx hb dX1_pieceIsSteepTo_63 (by decide) ?_
    exact g_zret hx hb hr hlk hS hZ hP hV (Nat.le_of_ble_eq_true rfl) (Nat.le_of_ble_eq_true rfl) dX1_pieceIsSteepTo_64 (by decide) (by simp [stO, bI, c_1]) (by rfl)
  · -- on
    refine lv_iconst (v := 1) hx hb dX1_pieceIsSteepTo_59 (by decide) ?_
    refine lv_goto (tgt := 64) hx hb dX1_pieceIsSteepTo_60 (by decide) ?_
    exact g_zret hx hb hr hlk hS hZ hP hV (Nat.le_of_ble_eq_true rfl) (Nat.le_of_ble_eq_true rfl) dX1_pieceIsSteepTo_64 (by decide) (by simp [stO, bI, c_1]) (by rfl)
set_option maxHeartbeats 4000000 in
set_option maxRecDepth 100000 in
theorem c_X1_pieceCrosses (l : Launch) (x : Cx) (M : Nat → Nat → Int32) (i k j u : Nat) (hi : i < 9) (hk : k + 1 < 8) (hj : j < 9) (hu : u + 1 < 8) : Met l yX1_pieceCrosses wsX1_pieceCrosses ({ frames := 3, cells := 0, slots := 0, locals := 69 }) (gP x M [.ref (xa x (11 + 3 * i)), .int (nI k), .ref (xa x (11 + 3 * j)), .int (nI u)]) (gQ x (some (.int (bI (crO (M (11 + 3 * i + 1)) (M (11 + 3 * i + 2)) k (M (11 + 3 * j + 1)) (M (11 + 3 * j + 2)) u)))) M) 0 0 (gF x) := by
  refine g_met (cc := cX1_pieceCrosses) (maxL := 4) (ret := some .boolean) (by decide) rfl (Nat.le_of_ble_eq_true rfl) ?_
  intro p e s m below meth c hx hb hr hml hts hown hlk hS hZ hP hV ls hl
  have hl : lv_has ls 4 [(0, .ref (xa x (11 + 3 * i))), (1, .int (nI k)), (2, .ref (xa x (11 + 3 * j))), (3, .int (nI u))] := hl
  refine lv_aload_n hx hb dX1_pieceCrosses_0 rfl (lv_at hl 0 rfl) ?_
  refine lv_iload_n hx hb dX1_pieceCrosses_1 rfl (lv_at hl 1 rfl) ?_
  refine lv_aload_n hx hb dX1_pieceCrosses_2 rfl (lv_at hl 2 rfl) ?_
  refine lv_iload_n hx hb dX1_pieceCrosses_3 rfl (lv_at hl 3 rfl) ?_
  refine g_call1 (va_runV (As := [.int (nI u)]) (rest := [.int (nI k), .ref (xa x (11 + 3 * i))]) ⟨hx, hb, hml, hown, hts⟩ (c_X1_leftOf l x M j u (by omega) (by omega)) (cwV 1 hts gX1_pieceCrosses_X1_leftOf rfl rfl rfl (by decide +kernel) ⟨Nat.le_of_ble_eq_true rfl, Nat.le_of_ble_eq_true rfl⟩) (g_preV hS hZ hP hV [.int (nI u)] (id := 11 + 3 * j) (by omega) (sh_r x _ (by omega)) rfl) rfl rfl hl.1 rfl (lv_room (Nat.le_of_ble_eq_true rfl)) dX1_pieceCrosses_4 ⟨Nat.le_of_ble_eq_true rfl, Nat.le_of_ble_eq_true rfl⟩) hV (fun H locs hP hV => ?_)
  refine lv_aload_n hx hb dX1_pieceCrosses_7 rfl (lv_at hl 2 rfl) ?_
  refine lv_iload_n hx hb dX1_pieceCrosses_8 rfl (lv_at hl 3 rfl) ?_
  refine g_call1 (va_runV (As := [.int (nI u)]) (rest := [.int (loO (M (11 + 3 * j + 1)) u), .int (nI k), .ref (xa x (11 + 3 * i))]) ⟨hx, hb, hml, hown, hts⟩ (c_X1_lowOf l x M j u (by omega) (by omega)) (cwV 1 hts gX1_pieceCrosses_X1_lowOf rfl rfl rfl (by decide +kernel) ⟨Nat.le_of_ble_eq_true rfl, Nat.le_of_ble_eq_true rfl⟩) (g_preV hS hZ hP hV [.int (nI u)] (id := 11 + 3 * j) (by omega) (sh_r x _ (by omega)) rfl) rfl rfl hl.1 rfl (lv_room (Nat.le_of_ble_eq_true rfl)) dX1_pieceCrosses_9 ⟨Nat.le_of_ble_eq_true rfl, Nat.le_of_ble_eq_true rfl⟩) hV (fun H locs hP hV => ?_)
  refine lv_aload_n hx hb dX1_pieceCrosses_12 rfl (lv_at hl 2 rfl) ?_
  refine lv_iload_n hx hb dX1_pieceCrosses_13 rfl (lv_at hl 3 rfl) ?_
  refine g_call1 (va_runV (As := [.int (nI u)]) (rest := [.int (loO (M (11 + 3 * j + 2)) u), .int (loO (M (11 + 3 * j + 1)) u), .int (nI k), .ref (xa x (11 + 3 * i))]) ⟨hx, hb, hml, hown, hts⟩ (c_X1_rightOf l x M j u (by omega) (by omega)) (cwV 1 hts gX1_pieceCrosses_X1_rightOf rfl rfl rfl (by decide +kernel) ⟨Nat.le_of_ble_eq_true rfl, Nat.le_of_ble_eq_true rfl⟩) (g_preV hS hZ hP hV [.int (nI u)] (id := 11 + 3 * j) (by omega) (sh_r x _ (by omega)) rfl) rfl rfl hl.1 rfl (lv_room (Nat.le_of_ble_eq_true rfl)) dX1_pieceCrosses_14 ⟨Nat.le_of_ble_eq_true rfl, Nat.le_of_ble_eq_true rfl⟩) hV (fun H locs hP hV => ?_)
  refine lv_aload_n hx hb dX1_pieceCrosses_17 rfl (lv_at hl 2 rfl) ?_
  refine lv_iload_n hx hb dX1_pieceCrosses_18 rfl (lv_at hl 3 rfl) ?_
  refine g_call1 (va_runV (As := [.int (nI u)]) (rest := [.int (hiO (M (11 + 3 * j + 1)) u), .int (loO (M (11 + 3 * j + 2)) u), .int (loO (M (11 + 3 * j + 1)) u), .int (nI k), .ref (xa x (11 + 3 * i))]) ⟨hx, hb, hml, hown, hts⟩ (c_X1_highOf l x M j u (by omega) (by omega)) (cwV 1 hts gX1_pieceCrosses_X1_highOf rfl rfl rfl (by decide +kernel) ⟨Nat.le_of_ble_eq_true rfl, Nat.le_of_ble_eq_true rfl⟩) (g_preV hS hZ hP hV [.int (nI u)] (id := 11 + 3 * j) (by omega) (sh_r x _ (by omega)) rfl) rfl rfl hl.1 rfl (lv_room (Nat.le_of_ble_eq_true rfl)) dX1_pieceCrosses_19 ⟨Nat.le_of_ble_eq_true rfl, Nat.le_of_ble_eq_true rfl⟩) hV (fun H locs hP hV => ?_)
  refine g_call1 (va_runV (As := [.int (nI k), .int (loO (M (11 + 3 * j + 1)) u), .int (loO (M (11 + 3 * j + 2)) u), .int (hiO (M (11 + 3 * j + 1)) u), .int (hiO (M (11 + 3 * j + 2)) u)]) (rest := []) ⟨hx, hb, hml, hown, hts⟩ (c_X1_boxMeets l x M i k (loO (M (11 + 3 * j + 1)) u) (loO (M (11 + 3 * j + 2)) u) (hiO (M (11 + 3 * j + 1)) u) (hiO (M (11 + 3 * j + 2)) u) (by omega) (by omega)) (cwV 5 hts gX1_pieceCrosses_X1_boxMeets rfl rfl rfl (by decide +kernel) ⟨Nat.le_of_ble_eq_true rfl, Nat.le_of_ble_eq_true rfl⟩) (g_preV hS hZ hP hV [.int (nI k), .int (loO (M (11 + 3 * j + 1)) u), .int (loO (M (11 + 3 * j + 2)) u), .int (hiO (M (11 + 3 * j + 1)) u), .int (hiO (M (11 + 3 * j + 2)) u)] (id := 11 + 3 * i) (by omega) (sh_r x _ (by omega)) rfl) rfl rfl hl.1 rfl (lv_room (Nat.le_of_ble_eq_true rfl)) dX1_pieceCrosses_22 ⟨Nat.le_of_ble_eq_true rfl, Nat.le_of_ble_eq_true rfl⟩) hV (fun H locs hP hV => ?_)
  refine h_if_eq_b (tgt := 52) hx hb dX1_pieceCrosses_25 (by decide) (fun c_1 => ?_) (fun c_1 => ?_)
  · -- taken
    refine lv_iconst (v := 0) hx hb dX1_pieceCrosses_52 (by decide) ?_
    exact g_zret hx hb hr hlk hS hZ hP hV (Nat.le_of_ble_eq_true rfl) (Nat.le_of_ble_eq_true rfl) dX1_pieceCrosses_53 (by decide) (by simp [crO, bI, c_1]) (by rfl)
  · -- on
    refine lv_aload_n hx hb dX1_pieceCrosses_28 rfl (lv_at hl 0 rfl) ?_
    refine lv_iload_n hx hb dX1_pieceCrosses_29 rfl (lv_at hl 1 rfl) ?_
    refine lv_aload_n hx hb dX1_pieceCrosses_30 rfl (lv_at hl 2 rfl) ?_
    refine lv_iload_n hx hb dX1_pieceCrosses_31 rfl (lv_at hl 3 rfl) ?_
    refine g_call1 (va_runV (As := [.int (nI k), .ref (xa x (11 + 3 * j)), .int (nI u)]) (rest := []) ⟨hx, hb, hml, hown, hts⟩ (c_X1_lineDivides l x M i k j u (by omega) (by omega) (by omega) (by omega)) (cwV 3 hts gX1_pieceCrosses_X1_lineDivides rfl rfl rfl (by decide +kernel) ⟨Nat.le_of_ble_eq_true rfl, Nat.le_of_ble_eq_true rfl⟩) (g_preV hS hZ hP hV [.int (nI k), .ref (xa x (11 + 3 * j)), .int (nI u)] (id := 11 + 3 * i) (by omega) (sh_r x _ (by omega)) rfl) rfl rfl hl.1 rfl (lv_room (Nat.le_of_ble_eq_true rfl)) dX1_pieceCrosses_32 ⟨Nat.le_of_ble_eq_true rfl, Nat.le_of_ble_eq_true rfl⟩) hV (fun H locs hP hV => ?_)
    refine h_if_eq_b (tgt := 52) hx hb dX1_pieceCrosses_35 (by decide) (fun c_2 => ?_) (fun c_2 => ?_)
    · -- taken
      refine lv_iconst (v := 0) hx hb dX1_pieceCrosses_52 (by decide) ?_
      exact g_zret hx hb hr hlk hS hZ hP hV (Nat.le_of_ble_eq_true rfl) (Nat.le_of_ble_eq_true rfl) dX1_pieceCrosses_53 (by decide) (by simp [crO, bI, c_1, c_2]) (by rfl)
    · -- on
      refine lv_aload_n hx hb dX1_pieceCrosses_38 rfl (lv_at hl 2 rfl) ?_
      refine lv_iload_n hx hb dX1_pieceCrosses_39 rfl (lv_at hl 3 rfl) ?_
      refine lv_aload_n hx hb dX1_pieceCrosses_40 rfl (lv_at hl 0 rfl) ?_
      refine lv_iload_n hx hb dX1_pieceCrosses_41 rfl (lv_at hl 1 rfl) ?_
      refine g_call1 (va_runV (As := [.int (nI u), .ref (xa x (11 + 3 * i)), .int (nI k)]) (rest := []) ⟨hx, hb, hml, hown, hts⟩ (c_X1_lineDivides l x M j u i k (by omega) (by omega) (by omega) (by omega)) (cwV 3 hts gX1_pieceCrosses_X1_lineDivides rfl rfl rfl (by decide +kernel) ⟨Nat.le_of_ble_eq_true rfl, Nat.le_of_ble_eq_true rfl⟩) (g_preV hS hZ hP hV [.int (nI u), .ref (xa x (11 + 3 * i)), .int (nI k)] (id := 11 + 3 * j) (by omega) (sh_r x _ (by omega)) rfl) rfl rfl hl.1 rfl (lv_room (Nat.le_of_ble_eq_true rfl)) dX1_pieceCrosses_42 ⟨Nat.le_of_ble_eq_true rfl, Nat.le_of_ble_eq_true rfl⟩) hV (fun H locs hP hV => ?_)
      refine h_if_eq_b (tgt := 52) hx hb dX1_pieceCrosses_45 (by decide) (fun c_3 => ?_) (fun c_3 => ?_)
      · -- taken
        refine lv_iconst (v := 0) hx hb dX1_pieceCrosses_52 (by decide) ?_
        exact g_zret hx hb hr hlk hS hZ hP hV (Nat.le_of_ble_eq_true rfl) (Nat.le_of_ble_eq_true rfl) dX1_pieceCrosses_53 (by decide) (by simp [crO, bI, c_1, c_2, c_3]) (by rfl)
      · -- on
        refine lv_iconst (v := 1) hx hb dX1_pieceCrosses_48 (by decide) ?_
        refine lv_goto (tgt := 53) hx hb dX1_pieceCrosses_49 (by decide) ?_
        exact g_zret hx hb hr hlk hS hZ hP hV (Nat.le_of_ble_eq_true rfl) (Nat.le_of_ble_eq_true rfl) dX1_pieceCrosses_53 (by decide) (by simp [crO, bI, c_1, c_2, c_3]) (by rfl)
set_option maxHeartbeats 4000000 in
set_option maxRecDepth 100000 in
theorem c_X1_lineMeets (l : Launch) (x : Cx) (M : Nat → Nat → Int32) (i k g : Nat) (hi : i < 9) (hk : k + 1 < 8) (hg : g < 5) : Met l yX1_lineMeets wsX1_lineMeets ({ frames := 2, cells := 0, slots := 0, locals := 44 }) (gP x M [.ref (xa x (11 + 3 * i)), .int (nI k), .ref (xa x (6 + g))]) (gQ x (some (.int (bI (lmO (M (11 + 3 * i + 1)) (M (11 + 3 * i + 2)) k (M (6 + g) 0) (M (6 + g) 1) (M (6 + g) 2) (M (6 + g) 3))))) M) 0 0 (gF x) := by
  refine g_met (cc := cX1_lineMeets) (maxL := 7) (ret := some .boolean) (by decide) rfl (Nat.le_of_ble_eq_true rfl) ?_
  intro p e s m below meth c hx hb hr hml hts hown hlk hS hZ hP hV ls hl
  have hl : lv_has ls 7 [(0, .ref (xa x (11 + 3 * i))), (1, .int (nI k)), (2, .ref (xa x (6 + g)))] := hl
  have hinX0 : ∀ w ∈ wsX00, w ∈ wsX1_lineMeets := by decide +kernel
  have hw_m35 := hts (.methodLink RX1 35 Lib.Math.min.name) (by decide +kernel)
  have hw_smin := hts (.static Lib.Math.min.name) (by decide +kernel)
  have hw_iMath := hts (.initialized "java/lang/Math") (by decide +kernel)
  have hw_cmin := hts (.code Lib.Math.min.name Lib.Math.min.code 2 (some .int)) (by decide +kernel)
  have hw_m41 := hts (.methodLink RX1 41 Lib.Math.max.name) (by decide +kernel)
  have hw_smax := hts (.static Lib.Math.max.name) (by decide +kernel)
  have hw_cmax := hts (.code Lib.Math.max.name Lib.Math.max.code 2 (some .int)) (by decide +kernel)
  refine lv_aload_n hx hb dX1_lineMeets_0 rfl (lv_at hl 0 rfl) ?_
  refine lv_iload_n hx hb dX1_lineMeets_1 rfl (lv_at hl 1 rfl) ?_
  refine lv_aload_n hx hb dX1_lineMeets_2 rfl (lv_at hl 2 rfl) ?_
  refine g_getN (C := RX0) (T := TX0) (N := 9) (host := RX2) (v := .int (M (6 + g) 0)) hx hb hts hinX0 hown hS hP (id := 6 + g) (by omega) (sh_g x _ (by omega)) rfl 0 (by decide) (by decide +kernel) rfl dX1_lineMeets_3 ?_
  refine lv_aload_n hx hb dX1_lineMeets_6 rfl (lv_at hl 2 rfl) ?_
  refine g_getN (C := RX0) (T := TX0) (N := 9) (host := RX2) (v := .int (M (6 + g) 1)) hx hb hts hinX0 hown hS hP (id := 6 + g) (by omega) (sh_g x _ (by omega)) rfl 1 (by decide) (by decide +kernel) rfl dX1_lineMeets_7 ?_
  refine g_call1 (va_runV (As := [.int (nI k), .int (M (6 + g) 0), .int (M (6 + g) 1)]) (rest := []) ⟨hx, hb, hml, hown, hts⟩ (c_X1_sideOf l x M i k (M (6 + g) 0) (M (6 + g) 1) (by omega) (by omega)) (cwV 3 hts gX1_lineMeets_X1_sideOf rfl rfl rfl (by decide +kernel) ⟨Nat.le_of_ble_eq_true rfl, Nat.le_of_ble_eq_true rfl⟩) (g_preV hS hZ hP hV [.int (nI k), .int (M (6 + g) 0), .int (M (6 + g) 1)] (id := 11 + 3 * i) (by omega) (sh_r x _ (by omega)) rfl) rfl rfl hl.1 rfl (lv_room (Nat.le_of_ble_eq_true rfl)) dX1_lineMeets_10 ⟨Nat.le_of_ble_eq_true rfl, Nat.le_of_ble_eq_true rfl⟩) hV (fun H locs hP hV => ?_)
  refine lv_istore_n (lv' := [(3, .int (sideO (M (11 + 3 * i + 1)) (M (11 + 3 * i + 2)) k (M (6 + g) 0) (M (6 + g) 1))), (0, .ref (xa x (11 + 3 * i))), (1, .int (nI k)), (2, .ref (xa x (6 + g)))]) hx hb dX1_lineMeets_13 rfl hl (by decide) rfl (fun ls hl => ?_)
  refine lv_aload_n hx hb dX1_lineMeets_14 rfl (lv_at hl 1 rfl) ?_
  refine lv_iload_n hx hb dX1_lineMeets_15 rfl (lv_at hl 2 rfl) ?_
  refine lv_aload_n hx hb dX1_lineMeets_16 rfl (lv_at hl 3 rfl) ?_
  refine g_getN (C := RX0) (T := TX0) (N := 9) (host := RX2) (v := .int (M (6 + g) 2)) hx hb hts hinX0 hown hS hP (id := 6 + g) (by omega) (sh_g x _ (by omega)) rfl 2 (by decide) (by decide +kernel) rfl dX1_lineMeets_17 ?_
  refine lv_aload_n hx hb dX1_lineMeets_20 rfl (lv_at hl 3 rfl) ?_
  refine g_getN (C := RX0) (T := TX0) (N := 9) (host := RX2) (v := .int (M (6 + g) 1)) hx hb hts hinX0 hown hS hP (id := 6 + g) (by omega) (sh_g x _ (by omega)) rfl 1 (by decide) (by decide +kernel) rfl dX1_lineMeets_21 ?_
  refine g_call1 (va_runV (As := [.int (nI k), .int (M (6 + g) 2), .int (M (6 + g) 1)]) (rest := []) ⟨hx, hb, hml, hown, hts⟩ (c_X1_sideOf l x M i k (M (6 + g) 2) (M (6 + g) 1) (by omega) (by omega)) (cwV 3 hts gX1_lineMeets_X1_sideOf rfl rfl rfl (by decide +kernel) ⟨Nat.le_of_ble_eq_true rfl, Nat.le_of_ble_eq_true rfl⟩) (g_preV hS hZ hP hV [.int (nI k), .int (M (6 + g) 2), .int (M (6 + g) 1)] (id := 11 + 3 * i) (by omega) (sh_r x _ (by omega)) rfl) rfl rfl hl.1 rfl (lv_room (Nat.le_of_ble_eq_true rfl)) dX1_lineMeets_24 ⟨Nat.le_of_ble_eq_true rfl, Nat.le_of_ble_eq_true rfl⟩) hV (fun H locs hP hV => ?_)
  refine lv_istore (lv' := [(4, .int (sideO (M (11 + 3 * i + 1)) (M (11 + 3 * i + 2)) k (M (6 + g) 2) (M (6 + g) 1))), (3, .int (sideO (M (11 + 3 * i + 1)) (M (11 + 3 * i + 2)) k (M (6 + g) 0) (M (6 + g) 1))), (0, .ref (xa x (11 + 3 * i))), (1, .int (nI k)), (2, .ref (xa x (6 + g)))]) hx hb dX1_lineMeets_27 hl (by decide) rfl (fun ls hl => ?_)
  refine lv_aload_n hx hb dX1_lineMeets_29 rfl (lv_at hl 2 rfl) ?_
  refine lv_iload_n hx hb dX1_lineMeets_30 rfl (lv_at hl 3 rfl) ?_
  refine lv_aload_n hx hb dX1_lineMeets_31 rfl (lv_at hl 4 rfl) ?_
  refine g_getN (C := RX0) (T := TX0) (N := 9) (host := RX2) (v := .int (M (6 + g) 0)) hx hb hts hinX0 hown hS hP (id := 6 + g) (by omega) (sh_g x _ (by omega)) rfl 0 (by decide) (by decide +kernel) rfl dX1_lineMeets_32 ?_
  refine lv_aload_n hx hb dX1_lineMeets_35 rfl (lv_at hl 4 rfl) ?_
  refine g_getN (C := RX0) (T := TX0) (N := 9) (host := RX2) (v := .int (M (6 + g) 3)) hx hb hts hinX0 hown hS hP (id := 6 + g) (by omega) (sh_g x _ (by omega)) rfl 3 (by decide) (by decide +kernel) rfl dX1_lineMeets_36 ?_
  refine g_call1 (va_runV (As := [.int (nI k), .int (M (6 + g) 0), .int (M (6 + g) 3)]) (rest := []) ⟨hx, hb, hml, hown, hts⟩ (c_X1_sideOf l x M i k (M (6 + g) 0) (M (6 + g) 3) (by omega) (by omega)) (cwV 3 hts gX1_lineMeets_X1_sideOf rfl rfl rfl (by decide +kernel) ⟨Nat.le_of_ble_eq_true rfl, Nat.le_of_ble_eq_true rfl⟩) (g_preV hS hZ hP hV [.int (nI k), .int (M (6 + g) 0), .int (M (6 + g) 3)] (id := 11 + 3 * i) (by omega) (sh_r x _ (by omega)) rfl) rfl rfl hl.1 rfl (lv_room (Nat.le_of_ble_eq_true rfl)) dX1_lineMeets_39 ⟨Nat.le_of_ble_eq_true rfl, Nat.le_of_ble_eq_true rfl⟩) hV (fun H locs hP hV => ?_)
  refine lv_istore (lv' := [(5, .int (sideO (M (11 + 3 * i + 1)) (M (11 + 3 * i + 2)) k (M (6 + g) 0) (M (6 + g) 3))), (4, .int (sideO (M (11 + 3 * i + 1)) (M (11 + 3 * i + 2)) k (M (6 + g) 2) (M (6 + g) 1))), (3, .int (sideO (M (11 + 3 * i + 1)) (M (11 + 3 * i + 2)) k (M (6 + g) 0) (M (6 + g) 1))), (0, .ref (xa x (11 + 3 * i))), (1, .int (nI k)), (2, .ref (xa x (6 + g)))]) hx hb dX1_lineMeets_42 hl (by decide) rfl (fun ls hl => ?_)
  refine lv_aload_n hx hb dX1_lineMeets_44 rfl (lv_at hl 3 rfl) ?_
  refine lv_iload_n hx hb dX1_lineMeets_45 rfl (lv_at hl 4 rfl) ?_
  refine lv_aload_n hx hb dX1_lineMeets_46 rfl (lv_at hl 5 rfl) ?_
  refine g_getN (C := RX0) (T := TX0) (N := 9) (host := RX2) (v := .int (M (6 + g) 2)) hx hb hts hinX0 hown hS hP (id := 6 + g) (by omega) (sh_g x _ (by omega)) rfl 2 (by decide) (by decide +kernel) rfl dX1_lineMeets_47 ?_
  refine lv_aload_n hx hb dX1_lineMeets_50 rfl (lv_at hl 5 rfl) ?_
  refine g_getN (C := RX0) (T := TX0) (N := 9) (host := RX2) (v := .int (M (6 + g) 3)) hx hb hts hinX0 hown hS hP (id := 6 + g) (by omega) (sh_g x _ (by omega)) rfl 3 (by decide) (by decide +kernel) rfl dX1_lineMeets_51 ?_
  refine g_call1 (va_runV (As := [.int (nI k), .int (M (6 + g) 2), .int (M (6 + g) 3)]) (rest := []) ⟨hx, hb, hml, hown, hts⟩ (c_X1_sideOf l x M i k (M (6 + g) 2) (M (6 + g) 3) (by omega) (by omega)) (cwV 3 hts gX1_lineMeets_X1_sideOf rfl rfl rfl (by decide +kernel) ⟨Nat.le_of_ble_eq_true rfl, Nat.le_of_ble_eq_true rfl⟩) (g_preV hS hZ hP hV [.int (nI k), .int (M (6 + g) 2), .int (M (6 + g) 3)] (id := 11 + 3 * i) (by omega) (sh_r x _ (by omega)) rfl) rfl rfl hl.1 rfl (lv_room (Nat.le_of_ble_eq_true rfl)) dX1_lineMeets_54 ⟨Nat.le_of_ble_eq_true rfl, Nat.le_of_ble_eq_true rfl⟩) hV (fun H locs hP hV => ?_)
  refine lv_istore (lv' := [(6, .int (sideO (M (11 + 3 * i + 1)) (M (11 + 3 * i + 2)) k (M (6 + g) 2) (M (6 + g) 3))), (5, .int (sideO (M (11 + 3 * i + 1)) (M (11 + 3 * i + 2)) k (M (6 + g) 0) (M (6 + g) 3))), (4, .int (sideO (M (11 + 3 * i + 1)) (M (11 + 3 * i + 2)) k (M (6 + g) 2) (M (6 + g) 1))), (3, .int (sideO (M (11 + 3 * i + 1)) (M (11 + 3 * i + 2)) k (M (6 + g) 0) (M (6 + g) 1))), (0, .ref (xa x (11 + 3 * i))), (1, .int (nI k)), (2, .ref (xa x (6 + g)))]) hx hb dX1_lineMeets_57 hl (by decide) rfl (fun ls hl => ?_)
  refine lv_iload_n hx hb dX1_lineMeets_59 rfl (lv_at hl 3 rfl) ?_
  refine lv_iload hx hb dX1_lineMeets_60 (lv_at hl 2 rfl) ?_
  refine h_min hx hb (hml.trans hl.1.symm) hown hw_m35 hw_smin hw_iMath hw_cmin (Nat.le_of_ble_eq_true rfl) (Nat.le_of_ble_eq_true rfl) (Nat.le_of_ble_eq_true rfl) (Nat.le_of_ble_eq_true rfl) dX1_lineMeets_62 ?_
  refine lv_iload hx hb dX1_lineMeets_65 (lv_at hl 1 rfl) ?_
  refine lv_iload hx hb dX1_lineMeets_67 (lv_at hl 0 rfl) ?_
  refine h_min hx hb (hml.trans hl.1.symm) hown hw_m35 hw_smin hw_iMath hw_cmin (Nat.le_of_ble_eq_true rfl) (Nat.le_of_ble_eq_true rfl) (Nat.le_of_ble_eq_true rfl) (Nat.le_of_ble_eq_true rfl) dX1_lineMeets_69 ?_
  refine h_min hx hb (hml.trans hl.1.symm) hown hw_m35 hw_smin hw_iMath hw_cmin (Nat.le_of_ble_eq_true rfl) (Nat.le_of_ble_eq_true rfl) (Nat.le_of_ble_eq_true rfl) (Nat.le_of_ble_eq_true rfl) dX1_lineMeets_72 ?_
  refine lv_if_gt (tgt := 101) hx hb dX1_lineMeets_75 (by decide) (fun c_1 => ?_) (fun c_1 => ?_)
  · -- taken
    refine lv_iconst (v := 0) hx hb dX1_lineMeets_101 (by decide) ?_
    exact g_zret hx hb hr hlk hS hZ hP hV (Nat.le_of_ble_eq_true rfl) (Nat.le_of_ble_eq_true rfl) dX1_lineMeets_102 (by decide) (by simp [lmO, bI, c_1]) (by rfl)
  · -- on
    refine lv_iload_n hx hb dX1_lineMeets_78 rfl (lv_at hl 3 rfl) ?_
    refine lv_iload hx hb dX1_lineMeets_79 (lv_at hl 2 rfl) ?_
    refine h_max hx hb (hml.trans hl.1.symm) hown hw_m41 hw_smax hw_iMath hw_cmax (Nat.le_of_ble_eq_true rfl) (Nat.le_of_ble_eq_true rfl) (Nat.le_of_ble_eq_true rfl) (Nat.le_of_ble_eq_true rfl) dX1_lineMeets_81 ?_
    refine lv_iload hx hb dX1_lineMeets_84 (lv_at hl 1 rfl) ?_
    refine lv_iload hx hb dX1_lineMeets_86 (lv_at hl 0 rfl) ?_
    refine h_max hx hb (hml.trans hl.1.symm) hown hw_m41 hw_smax hw_iMath hw_cmax (Nat.le_of_ble_eq_true rfl) (Nat.le_of_ble_eq_true rfl) (Nat.le_of_ble_eq_true rfl) (Nat.le_of_ble_eq_true rfl) dX1_lineMeets_88 ?_
    refine h_max hx hb (hml.trans hl.1.symm) hown hw_m41 hw_smax hw_iMath hw_cmax (Nat.le_of_ble_eq_true rfl) (Nat.le_of_ble_eq_true rfl) (Nat.le_of_ble_eq_true rfl) (Nat.le_of_ble_eq_true rfl) dX1_lineMeets_91 ?_
    refine lv_if_lt (tgt := 101) hx hb dX1_lineMeets_94 (by decide) (fun c_2 => ?_) (fun c_2 => ?_)
    · -- taken
      refine lv_iconst (v := 0) hx hb dX1_lineMeets_101 (by decide) ?_
      exact g_zret hx hb hr hlk hS hZ hP hV (Nat.le_of_ble_eq_true rfl) (Nat.le_of_ble_eq_true rfl) dX1_lineMeets_102 (by decide) (by simp [lmO, bI, c_1, c_2]) (by rfl)
    · -- on
      refine lv_iconst (v := 1) hx hb dX1_lineMeets_97 (by decide) ?_
      refine lv_goto (tgt := 102) hx hb dX1_lineMeets_98 (by decide) ?_
      exact g_zret hx hb hr hlk hS hZ hP hV (Nat.le_of_ble_eq_true rfl) (Nat.le_of_ble_eq_true rfl) dX1_lineMeets_102 (by decide) (by simp [lmO, bI, c_1, c_2]) (by rfl)
set_option maxHeartbeats 4000000 in
set_option maxRecDepth 100000 in
theorem c_X1_pieceMeets (l : Launch) (x : Cx) (M : Nat → Nat → Int32) (i k g : Nat) (hi : i < 9) (hk : k + 1 < 8) (hg : g < 5) : Met l yX1_pieceMeets wsX1_pieceMeets ({ frames := 3, cells := 0, slots := 0, locals := 70 }) (gP x M [.ref (xa x (11 + 3 * i)), .int (nI k), .ref (xa x (6 + g))]) (gQ x (some (.int (bI (mtO (M (11 + 3 * i + 1)) (M (11 + 3 * i + 2)) k (M (6 + g) 0) (M (6 + g) 1) (M (6 + g) 2) (M (6 + g) 3))))) M) 0 0 (gF x) := by
  refine g_met (cc := cX1_pieceMeets) (maxL := 3) (ret := some .boolean) (by decide) rfl (Nat.le_of_ble_eq_true rfl) ?_
  intro p e s m below meth c hx hb hr hml hts hown hlk hS hZ hP hV ls hl
  have hl : lv_has ls 3 [(0, .ref (xa x (11 + 3 * i))), (1, .int (nI k)), (2, .ref (xa x (6 + g)))] := hl
  have hinX0 : ∀ w ∈ wsX00, w ∈ wsX1_pieceMeets := by decide +kernel
  refine lv_aload_n hx hb dX1_pieceMeets_0 rfl (lv_at hl 0 rfl) ?_
  refine lv_iload_n hx hb dX1_pieceMeets_1 rfl (lv_at hl 1 rfl) ?_
  refine lv_aload_n hx hb dX1_pieceMeets_2 rfl (lv_at hl 2 rfl) ?_
  refine g_getN (C := RX0) (T := TX0) (N := 9) (host := RX2) (v := .int (M (6 + g) 0)) hx hb hts hinX0 hown hS hP (id := 6 + g) (by omega) (sh_g x _ (by omega)) rfl 0 (by decide) (by decide +kernel) rfl dX1_pieceMeets_3 ?_
  refine lv_aload_n hx hb dX1_pieceMeets_6 rfl (lv_at hl 2 rfl) ?_
  refine g_getN (C := RX0) (T := TX0) (N := 9) (host := RX2) (v := .int (M (6 + g) 1)) hx hb hts hinX0 hown hS hP (id := 6 + g) (by omega) (sh_g x _ (by omega)) rfl 1 (by decide) (by decide +kernel) rfl dX1_pieceMeets_7 ?_
  refine lv_aload_n hx hb dX1_pieceMeets_10 rfl (lv_at hl 2 rfl) ?_
  refine g_getN (C := RX0) (T := TX0) (N := 9) (host := RX2) (v := .int (M (6 + g) 2)) hx hb hts hinX0 hown hS hP (id := 6 + g) (by omega) (sh_g x _ (by omega)) rfl 2 (by decide) (by decide +kernel) rfl dX1_pieceMeets_11 ?_
  refine lv_aload_n hx hb dX1_pieceMeets_14 rfl (lv_at hl 2 rfl) ?_
  refine g_getN (C := RX0) (T := TX0) (N := 9) (host := RX2) (v := .int (M (6 + g) 3)) hx hb hts hinX0 hown hS hP (id := 6 + g) (by omega) (sh_g x _ (by omega)) rfl 3 (by decide) (by decide +kernel) rfl dX1_pieceMeets_15 ?_
  refine g_call1 (va_runV (As := [.int (nI k), .int (M (6 + g) 0), .int (M (6 + g) 1), .int (M (6 + g) 2), .int (M (6 + g) 3)]) (rest := []) ⟨hx, hb, hml, hown, hts⟩ (c_X1_boxMeets l x M i k (M (6 + g) 0) (M (6 + g) 1) (M (6 + g) 2) (M (6 + g) 3) (by omega) (by omega)) (cwV 5 hts gX1_pieceMeets_X1_boxMeets rfl rfl rfl (by decide +kernel) ⟨Nat.le_of_ble_eq_true rfl, Nat.le_of_ble_eq_true rfl⟩) (g_preV hS hZ hP hV [.int (nI k), .int (M (6 + g) 0), .int (M (6 + g) 1), .int (M (6 + g) 2), .int (M (6 + g) 3)] (id := 11 + 3 * i) (by omega) (sh_r x _ (by omega)) rfl) rfl rfl hl.1 rfl (lv_room (Nat.le_of_ble_eq_true rfl)) dX1_pieceMeets_18 ⟨Nat.le_of_ble_eq_true rfl, Nat.le_of_ble_eq_true rfl⟩) hV (fun H locs hP hV => ?_)
  refine h_if_eq_b (tgt := 37) hx hb dX1_pieceMeets_21 (by decide) (fun c_1 => ?_) (fun c_1 => ?_)
  · -- taken
    refine lv_iconst (v := 0) hx hb dX1_pieceMeets_37 (by decide) ?_
    exact g_zret hx hb hr hlk hS hZ hP hV (Nat.le_of_ble_eq_true rfl) (Nat.le_of_ble_eq_true rfl) dX1_pieceMeets_38 (by decide) (by simp [mtO, bI, c_1]) (by rfl)
  · -- on
    refine lv_aload_n hx hb dX1_pieceMeets_24 rfl (lv_at hl 0 rfl) ?_
    refine lv_iload_n hx hb dX1_pieceMeets_25 rfl (lv_at hl 1 rfl) ?_
    refine lv_aload_n hx hb dX1_pieceMeets_26 rfl (lv_at hl 2 rfl) ?_
    refine g_call1 (va_runV (As := [.int (nI k), .ref (xa x (6 + g))]) (rest := []) ⟨hx, hb, hml, hown, hts⟩ (c_X1_lineMeets l x M i k g (by omega) (by omega) (by omega)) (cwV 2 hts gX1_pieceMeets_X1_lineMeets rfl rfl rfl (by decide +kernel) ⟨Nat.le_of_ble_eq_true rfl, Nat.le_of_ble_eq_true rfl⟩) (g_preV hS hZ hP hV [.int (nI k), .ref (xa x (6 + g))] (id := 11 + 3 * i) (by omega) (sh_r x _ (by omega)) rfl) rfl rfl hl.1 rfl (lv_room (Nat.le_of_ble_eq_true rfl)) dX1_pieceMeets_27 ⟨Nat.le_of_ble_eq_true rfl, Nat.le_of_ble_eq_true rfl⟩) hV (fun H locs hP hV => ?_)
    refine h_if_eq_b (tgt := 37) hx hb dX1_pieceMeets_30 (by decide) (fun c_2 => ?_) (fun c_2 => ?_)
    · -- taken
      refine lv_iconst (v := 0) hx hb dX1_pieceMeets_37 (by decide) ?_
      exact g_zret hx hb hr hlk hS hZ hP hV (Nat.le_of_ble_eq_true rfl) (Nat.le_of_ble_eq_true rfl) dX1_pieceMeets_38 (by decide) (by simp [mtO, bI, c_1, c_2]) (by rfl)
    · -- on
      refine lv_iconst (v := 1) hx hb dX1_pieceMeets_33 (by decide) ?_
      refine lv_goto (tgt := 38) hx hb dX1_pieceMeets_34 (by decide) ?_
      exact g_zret hx hb hr hlk hS hZ hP hV (Nat.le_of_ble_eq_true rfl) (Nat.le_of_ble_eq_true rfl) dX1_pieceMeets_38 (by decide) (by simp [mtO, bI, c_1, c_2]) (by rfl)
set_option maxHeartbeats 4000000 in
set_option maxRecDepth 100000 in
theorem c_X1_isAt (l : Launch) (x : Cx) (M : Nat → Nat → Int32) (i n : Nat) (q px py : Int32) (hi : i < 9) (hn : M (11 + 3 * i) 2 = nI n) (hn8 : n ≤ 8) : Met l yX1_isAt wsX1_isAt ({ frames := 0, cells := 0, slots := 0, locals := 0 }) (gP x M [.ref (xa x (11 + 3 * i)), .int q, .int px, .int py]) (gQ x (some (.int (bI (atO (M (11 + 3 * i) 2) (M (11 + 3 * i + 1)) (M (11 + 3 * i + 2)) q px py)))) M) 0 0 (gF x) := by
  refine g_met (cc := cX1_isAt) (maxL := 4) (ret := some .boolean) (by decide) rfl (Nat.le_of_ble_eq_true rfl) ?_
  intro p e s m below meth c hx hb hr hml hts hown hlk hS hZ hP hV ls hl
  have hl : lv_has ls 4 [(0, .ref (xa x (11 + 3 * i))), (1, .int q), (2, .int px), (3, .int py)] := hl
  have hw_f18 := hts (.fieldLink RX1 18 "CableOffice$Route" "points" "I") (by decide +kernel)
  have hinX1 : ∀ w ∈ wsX10, w ∈ wsX1_isAt := by decide +kernel
  have hw_f9 := hts (.fieldLink RX1 9 "CableOffice$Route" "x" "[I") (by decide +kernel)
  have hw_f15 := hts (.fieldLink RX1 15 "CableOffice$Route" "y" "[I") (by decide +kernel)
  refine lv_iload_n hx hb dX1_isAt_0 rfl (lv_at hl 1 rfl) ?_
  refine lv_if_lt (tgt := 36) hx hb dX1_isAt_1 (by decide) (fun c_1 => ?_) (fun c_1 => ?_)
  · -- taken
    refine lv_iconst (v := 0) hx hb dX1_isAt_36 (by decide) ?_
    exact g_zret hx hb hr hlk hS hZ hP hV (Nat.le_of_ble_eq_true rfl) (Nat.le_of_ble_eq_true rfl) dX1_isAt_37 (by decide) (by simp [atO, bI, c_1]) (by rfl)
  · -- on
    refine lv_iload_n hx hb dX1_isAt_4 rfl (lv_at hl 1 rfl) ?_
    refine lv_aload_n hx hb dX1_isAt_5 rfl (lv_at hl 0 rfl) ?_
    refine g_get (C := RX1) (T := TX1) (N := 3) (v := .int (M (11 + 3 * i) 2)) hx hb hts hinX1 hown hS hP (id := 11 + 3 * i) (by omega) (sh_r x _ (by omega)) rfl 2 (by decide) hw_f18 rfl dX1_isAt_6 ?_
    refine lv_icmp_ge (tgt := 36) hx hb dX1_isAt_9 (by decide) (fun c_2 => ?_) (fun c_2 => ?_)
    · -- taken
      refine lv_iconst (v := 0) hx hb dX1_isAt_36 (by decide) ?_
      exact g_zret hx hb hr hlk hS hZ hP hV (Nat.le_of_ble_eq_true rfl) (Nat.le_of_ble_eq_true rfl) dX1_isAt_37 (by decide) (by simp [atO, bI, c_1, c_2]) (by rfl)
    · -- on
      obtain ⟨j, hj, rfl⟩ := h_idx c_1 c_2 hn
      refine lv_aload_n hx hb dX1_isAt_12 rfl (lv_at hl 0 rfl) ?_
      refine g_get (C := RX1) (T := TX1) (N := 3) (v := .ref (xa x (11 + 3 * i + 1))) hx hb hts hinX1 hown hS hP (id := 11 + 3 * i) (by omega) (sh_r x _ (by omega)) rfl 0 (by decide) hw_f9 rfl dX1_isAt_13 ?_
      refine lv_iload_n hx hb dX1_isAt_16 rfl (lv_at hl 1 rfl) ?_
      refine g_iald (j := j) hx hb hS hP (id := 11 + 3 * i + 1) (by omega) ((fun r => sh_x x r (by omega)) _) (by decide) rfl (by omega) dX1_isAt_17 ?_
      refine lv_iload_n hx hb dX1_isAt_18 rfl (lv_at hl 2 rfl) ?_
      refine lv_icmp_ne (tgt := 36) hx hb dX1_isAt_19 (by decide) (fun c_3 => ?_) (fun c_3 => ?_)
      · -- taken
        refine lv_iconst (v := 0) hx hb dX1_isAt_36 (by decide) ?_
        exact g_zret hx hb hr hlk hS hZ hP hV (Nat.le_of_ble_eq_true rfl) (Nat.le_of_ble_eq_true rfl) dX1_isAt_37 (by decide) (by simp [atO, bI, c_1, c_2, c_3, nI_clamp (show j < 2 ^ 31 by omega)]) (by rfl)
      · -- on
        refine lv_aload_n hx hb dX1_isAt_22 rfl (lv_at hl 0 rfl) ?_
        refine g_get (C := RX1) (T := TX1) (N := 3) (v := .ref (xa x (11 + 3 * i + 2))) hx hb hts hinX1 hown hS hP (id := 11 + 3 * i) (by omega) (sh_r x _ (by omega)) rfl 1 (by decide) hw_f15 rfl dX1_isAt_23 ?_
        refine lv_iload_n hx hb dX1_isAt_26 rfl (lv_at hl 1 rfl) ?_
        refine g_iald (j := j) hx hb hS hP (id := 11 + 3 * i + 2) (by omega) ((fun r => sh_y x r (by omega)) _) (by decide) rfl (by omega) dX1_isAt_27 ?_
        refine lv_iload_n hx hb dX1_isAt_28 rfl (lv_at hl 3 rfl) ?_
        refine lv_icmp_ne (tgt := 36) hx hb dX1_isAt_29 (by decide) (fun c_4 => ?_) (fun c_4 => ?_)
        · -- taken
          refine lv_iconst (v := 0) hx hb dX1_isAt_36 (by decide) ?_
          exact g_zret hx hb hr hlk hS hZ hP hV (Nat.le_of_ble_eq_true rfl) (Nat.le_of_ble_eq_true rfl) dX1_isAt_37 (by decide) (by simp [atO, bI, c_1, c_2, c_3, c_4, nI_clamp (show j < 2 ^ 31 by omega)]) (by rfl)
        · -- on
          refine lv_iconst (v := 1) hx hb dX1_isAt_32 (by decide) ?_
          refine lv_goto (tgt := 37) hx hb dX1_isAt_33 (by decide) ?_
          exact g_zret hx hb hr hlk hS hZ hP hV (Nat.le_of_ble_eq_true rfl) (Nat.le_of_ble_eq_true rfl) dX1_isAt_37 (by decide) (by simp [atO, bI, c_1, c_2, c_3, c_4, nI_clamp (show j < 2 ^ 31 by omega)]) (by rfl)
set_option maxHeartbeats 4000000 in
set_option maxRecDepth 100000 in
theorem c_X0_isShutIn (l : Launch) (x : Cx) (M : Nat → Nat → Int32) (g : Nat) (mo : Int32) (hg : g < 5) : Met l yX0_isShutIn wsX0_isShutIn ({ frames := 0, cells := 0, slots := 0, locals := 0 }) (gP x M [.ref (xa x (6 + g)), .int mo]) (gQ x (some (.int (bI (shutO (M (6 + g) 4) (M (6 + g) 5) mo)))) M) 0 0 (gF x) := by
  refine g_met (cc := cX0_isShutIn) (maxL := 2) (ret := some .boolean) (by decide) rfl (Nat.le_of_ble_eq_true rfl) ?_
  intro p e s m below meth c hx hb hr hml hts hown hlk hS hZ hP hV ls hl
  have hl : lv_has ls 2 [(0, .ref (xa x (6 + g))), (1, .int mo)] := hl
  have hw_f22 := hts (.fieldLink RX0 22 "CableOffice$Ground" "from" "I") (by decide +kernel)
  have hinX0 : ∀ w ∈ wsX00, w ∈ wsX0_isShutIn := by decide +kernel
  have hw_f25 := hts (.fieldLink RX0 25 "CableOffice$Ground" "to" "I") (by decide +kernel)
  refine lv_aload_n hx hb dX0_isShutIn_0 rfl (lv_at hl 0 rfl) ?_
  refine g_get (C := RX0) (T := TX0) (N := 9) (v := .int (M (6 + g) 4)) hx hb hts hinX0 hown hS hP (id := 6 + g) (by omega) (sh_g x _ (by omega)) rfl 4 (by decide) hw_f22 rfl dX0_isShutIn_1 ?_
  refine lv_aload_n hx hb dX0_isShutIn_4 rfl (lv_at hl 0 rfl) ?_
  refine g_get (C := RX0) (T := TX0) (N := 9) (v := .int (M (6 + g) 5)) hx hb hts hinX0 hown hS hP (id := 6 + g) (by omega) (sh_g x _ (by omega)) rfl 5 (by decide) hw_f25 rfl dX0_isShutIn_5 ?_
  refine lv_icmp_gt (tgt := 33) hx hb dX0_isShutIn_8 (by decide) (fun c_1 => ?_) (fun c_1 => ?_)
  · -- taken
    refine lv_aload_n hx hb dX0_isShutIn_33 rfl (lv_at hl 0 rfl) ?_
    refine g_get (C := RX0) (T := TX0) (N := 9) (v := .int (M (6 + g) 4)) hx hb hts hinX0 hown hS hP (id := 6 + g) (by omega) (sh_g x _ (by omega)) rfl 4 (by decide) hw_f22 rfl dX0_isShutIn_34 ?_
    refine lv_iload_n hx hb dX0_isShutIn_37 rfl (lv_at hl 1 rfl) ?_
    refine lv_icmp_le (tgt := 49) hx hb dX0_isShutIn_38 (by decide) (fun c_2 => ?_) (fun c_2 => ?_)
    · -- taken
      refine lv_iconst (v := 1) hx hb dX0_isShutIn_49 (by decide) ?_
      refine lv_goto (tgt := 54) hx hb dX0_isShutIn_50 (by decide) ?_
      exact g_zret hx hb hr hlk hS hZ hP hV (Nat.le_of_ble_eq_true rfl) (Nat.le_of_ble_eq_true rfl) dX0_isShutIn_54 (by decide) (by simp [shutO, bI, c_1, c_2]) (by rfl)
    · -- on
      refine lv_iload_n hx hb dX0_isShutIn_41 rfl (lv_at hl 1 rfl) ?_
      refine lv_aload_n hx hb dX0_isShutIn_42 rfl (lv_at hl 0 rfl) ?_
      refine g_get (C := RX0) (T := TX0) (N := 9) (v := .int (M (6 + g) 5)) hx hb hts hinX0 hown hS hP (id := 6 + g) (by omega) (sh_g x _ (by omega)) rfl 5 (by decide) hw_f25 rfl dX0_isShutIn_43 ?_
      refine lv_icmp_gt (tgt := 53) hx hb dX0_isShutIn_46 (by decide) (fun c_3 => ?_) (fun c_3 => ?_)
      · -- taken
        refine lv_iconst (v := 0) hx hb dX0_isShutIn_53 (by decide) ?_
        exact g_zret hx hb hr hlk hS hZ hP hV (Nat.le_of_ble_eq_true rfl) (Nat.le_of_ble_eq_true rfl) dX0_isShutIn_54 (by decide) (by simp [shutO, bI, c_1, c_2, c_3]) (by rfl)
      · -- on
        refine lv_iconst (v := 1) hx hb dX0_isShutIn_49 (by decide) ?_
        refine lv_goto (tgt := 54) hx hb dX0_isShutIn_50 (by decide) ?_
        exact g_zret hx hb hr hlk hS hZ hP hV (Nat.le_of_ble_eq_true rfl) (Nat.le_of_ble_eq_true rfl) dX0_isShutIn_54 (by decide) (by simp [shutO, bI, c_1, c_2, c_3]) (by rfl)
  · -- on
    refine lv_aload_n hx hb dX0_isShutIn_11 rfl (lv_at hl 0 rfl) ?_
    refine g_get (C := RX0) (T := TX0) (N := 9) (v := .int (M (6 + g) 4)) hx hb hts hinX0 hown hS hP (id := 6 + g) (by omega) (sh_g x _ (by omega)) rfl 4 (by decide) hw_f22 rfl dX0_isShutIn_12 ?_
    refine lv_iload_n hx hb dX0_isShutIn_15 rfl (lv_at hl 1 rfl) ?_
    refine lv_icmp_gt (tgt := 31) hx hb dX0_isShutIn_16 (by decide) (fun c_4 => ?_) (fun c_4 => ?_)
    · -- taken
      refine lv_iconst (v := 0) hx hb dX0_isShutIn_31 (by decide) ?_
      exact g_zret hx hb hr hlk hS hZ hP hV (Nat.le_of_ble_eq_true rfl) (Nat.le_of_ble_eq_true rfl) dX0_isShutIn_32 (by decide) (by simp [shutO, bI, c_1, c_4]) (by rfl)
    · -- on
      refine lv_iload_n hx hb dX0_isShutIn_19 rfl (lv_at hl 1 rfl) ?_
      refine lv_aload_n hx hb dX0_isShutIn_20 rfl (lv_at hl 0 rfl) ?_
      refine g_get (C := RX0) (T := TX0) (N := 9) (v := .int (M (6 + g) 5)) hx hb hts hinX0 hown hS hP (id := 6 + g) (by omega) (sh_g x _ (by omega)) rfl 5 (by decide) hw_f25 rfl dX0_isShutIn_21 ?_
      refine lv_icmp_gt (tgt := 31) hx hb dX0_isShutIn_24 (by decide) (fun c_5 => ?_) (fun c_5 => ?_)
      · -- taken
        refine lv_iconst (v := 0) hx hb dX0_isShutIn_31 (by decide) ?_
        exact g_zret hx hb hr hlk hS hZ hP hV (Nat.le_of_ble_eq_true rfl) (Nat.le_of_ble_eq_true rfl) dX0_isShutIn_32 (by decide) (by simp [shutO, bI, c_1, c_4, c_5]) (by rfl)
      · -- on
        refine lv_iconst (v := 1) hx hb dX0_isShutIn_27 (by decide) ?_
        refine lv_goto (tgt := 32) hx hb dX0_isShutIn_28 (by decide) ?_
        exact g_zret hx hb hr hlk hS hZ hP hV (Nat.le_of_ble_eq_true rfl) (Nat.le_of_ble_eq_true rfl) dX0_isShutIn_32 (by decide) (by simp [shutO, bI, c_1, c_4, c_5]) (by rfl)
set_option maxHeartbeats 4000000 in
set_option maxRecDepth 100000 in
theorem c_X0_price (l : Launch) (x : Cx) (M : Nat → Nat → Int32) (g : Nat) (hg : g < 5) : Met l yX0_price wsX0_price ({ frames := 0, cells := 0, slots := 0, locals := 0 }) (gP x M [.ref (xa x (6 + g))]) (gQ x (some (.int (prO (M (6 + g) 6) (M (6 + g) 7)))) M) 0 0 (gF x) := by
  refine g_met (cc := cX0_price) (maxL := 1) (ret := some .int) (by decide) rfl (Nat.le_of_ble_eq_true rfl) ?_
  intro p e s m below meth c hx hb hr hml hts hown hlk hS hZ hP hV ls hl
  have hl : lv_has ls 1 [(0, .ref (xa x (6 + g)))] := hl
  have hw_f28 := hts (.fieldLink RX0 28 "CableOffice$Ground" "catches" "I") (by decide +kernel)
  have hinX0 : ∀ w ∈ wsX00, w ∈ wsX0_price := by decide +kernel
  have hw_f31 := hts (.fieldLink RX0 31 "CableOffice$Ground" "catchSum" "I") (by decide +kernel)
  refine lv_aload_n hx hb dX0_price_0 rfl (lv_at hl 0 rfl) ?_
  refine g_get (C := RX0) (T := TX0) (N := 9) (v := .int (M (6 + g) 6)) hx hb hts hinX0 hown hS hP (id := 6 + g) (by omega) (sh_g x _ (by omega)) rfl 6 (by decide) hw_f28 rfl dX0_price_1 ?_
  refine lv_if_le (tgt := 19) hx hb dX0_price_4 (by decide) (fun c_1 => ?_) (fun c_1 => ?_)
  · -- taken
    refine lv_iconst (v := 0) hx hb dX0_price_19 (by decide) ?_
    exact g_iret hx hb hr hlk hS hZ hP hV (Nat.le_of_ble_eq_true rfl) (Nat.le_of_ble_eq_true rfl) dX0_price_20 (by simp [prO, c_1]) (by rfl)
  · -- on
    refine lv_aload_n hx hb dX0_price_7 rfl (lv_at hl 0 rfl) ?_
    refine g_get (C := RX0) (T := TX0) (N := 9) (v := .int (M (6 + g) 7)) hx hb hts hinX0 hown hS hP (id := 6 + g) (by omega) (sh_g x _ (by omega)) rfl 7 (by decide) hw_f31 rfl dX0_price_8 ?_
    refine lv_aload_n hx hb dX0_price_11 rfl (lv_at hl 0 rfl) ?_
    refine g_get (C := RX0) (T := TX0) (N := 9) (v := .int (M (6 + g) 6)) hx hb hts hinX0 hown hS hP (id := 6 + g) (by omega) (sh_g x _ (by omega)) rfl 6 (by decide) hw_f28 rfl dX0_price_12 ?_
    refine lv_idiv hx hb dX0_price_15 (h_ne0 c_1) ?_
    refine lv_goto (tgt := 20) hx hb dX0_price_16 (by decide) ?_
    exact g_iret hx hb hr hlk hS hZ hP hV (Nat.le_of_ble_eq_true rfl) (Nat.le_of_ble_eq_true rfl) dX0_price_20 (by simp [prO, c_1]) (by rfl)
set_option maxHeartbeats 4000000 in
set_option maxRecDepth 100000 in
theorem c_X0_setBounds (l : Launch) (x : Cx) (M : Nat → Nat → Int32) (g : Nat) (le lo ri hh : Int32) (hg : g < 5) : Met l yX0_setBounds wsX0_setBounds ({ frames := 0, cells := 0, slots := 0, locals := 0 }) (gP x M [.ref (xa x (6 + g)), .int le, .int lo, .int ri, .int hh]) (gQ x none (up2 (up2 (up2 (up2 M (6 + g) 0 le) (6 + g) 1 lo) (6 + g) 2 ri) (6 + g) 3 hh)) 0 0 (gF x) := by
  refine g_met (cc := cX0_setBounds) (maxL := 5) (ret := none) (by decide) rfl (Nat.le_of_ble_eq_true rfl) ?_
  intro p e s m below meth c hx hb hr hml hts hown hlk hS hZ hP hV ls hl
  have hl : lv_has ls 5 [(0, .ref (xa x (6 + g))), (1, .int le), (2, .int lo), (3, .int ri), (4, .int hh)] := hl
  have hw_f7 := hts (.fieldLink RX0 7 "CableOffice$Ground" "left" "I") (by decide +kernel)
  have hinX0 : ∀ w ∈ wsX00, w ∈ wsX0_setBounds := by decide +kernel
  have hw_f13 := hts (.fieldLink RX0 13 "CableOffice$Ground" "low" "I") (by decide +kernel)
  have hw_f16 := hts (.fieldLink RX0 16 "CableOffice$Ground" "right" "I") (by decide +kernel)
  have hw_f19 := hts (.fieldLink RX0 19 "CableOffice$Ground" "high" "I") (by decide +kernel)
  refine lv_aload_n hx hb dX0_setBounds_0 rfl (lv_at hl 0 rfl) ?_
  refine lv_iload_n hx hb dX0_setBounds_1 rfl (lv_at hl 1 rfl) ?_
  refine g_put (C := RX0) (T := TX0) (N := 9) hx hb hts hinX0 tyX0 tyX0_ok nmX0 hown hS hP hV (id := 6 + g) (by omega) (sh_g x _ (by omega)) rfl 0 (by decide) hw_f7 rfl (by decide +kernel) (Nat.le_of_ble_eq_true rfl) ((sh_g x _ (by omega)).trans rfl) dX0_setBounds_2 (fun H locs hP hV => ?_)
  refine lv_aload_n hx hb dX0_setBounds_5 rfl (lv_at hl 0 rfl) ?_
  refine lv_iload_n hx hb dX0_setBounds_6 rfl (lv_at hl 2 rfl) ?_
  refine g_put (C := RX0) (T := TX0) (N := 9) hx hb hts hinX0 tyX0 tyX0_ok nmX0 hown hS hP hV (id := 6 + g) (by omega) (sh_g x _ (by omega)) rfl 1 (by decide) hw_f13 rfl (by decide +kernel) (Nat.le_of_ble_eq_true rfl) ((sh_g x _ (by omega)).trans rfl) dX0_setBounds_7 (fun H locs hP hV => ?_)
  refine lv_aload_n hx hb dX0_setBounds_10 rfl (lv_at hl 0 rfl) ?_
  refine lv_iload_n hx hb dX0_setBounds_11 rfl (lv_at hl 3 rfl) ?_
  refine g_put (C := RX0) (T := TX0) (N := 9) hx hb hts hinX0 tyX0 tyX0_ok nmX0 hown hS hP hV (id := 6 + g) (by omega) (sh_g x _ (by omega)) rfl 2 (by decide) hw_f16 rfl (by decide +kernel) (Nat.le_of_ble_eq_true rfl) ((sh_g x _ (by omega)).trans rfl) dX0_setBounds_12 (fun H locs hP hV => ?_)
  refine lv_aload_n hx hb dX0_setBounds_15 rfl (lv_at hl 0 rfl) ?_
  refine lv_iload hx hb dX0_setBounds_16 (lv_at hl 4 rfl) ?_
  refine g_put (C := RX0) (T := TX0) (N := 9) hx hb hts hinX0 tyX0 tyX0_ok nmX0 hown hS hP hV (id := 6 + g) (by omega) (sh_g x _ (by omega)) rfl 3 (by decide) hw_f19 rfl (by decide +kernel) (Nat.le_of_ble_eq_true rfl) ((sh_g x _ (by omega)).trans rfl) dX0_setBounds_18 (fun H locs hP hV => ?_)
  exact g_vret hx hb hr hlk hS hZ hP hV (Nat.le_of_ble_eq_true rfl) (Nat.le_of_ble_eq_true rfl) dX0_setBounds_21 (by rfl)
set_option maxHeartbeats 4000000 in
set_option maxRecDepth 100000 in
theorem c_X0_setMonths (l : Launch) (x : Cx) (M : Nat → Nat → Int32) (g : Nat) (fr to : Int32) (hg : g < 5) : Met l yX0_setMonths wsX0_setMonths ({ frames := 0, cells := 0, slots := 0, locals := 0 }) (gP x M [.ref (xa x (6 + g)), .int fr, .int to]) (gQ x none (up2 (up2 M (6 + g) 4 fr) (6 + g) 5 to)) 0 0 (gF x) := by
  refine g_met (cc := cX0_setMonths) (maxL := 3) (ret := none) (by decide) rfl (Nat.le_of_ble_eq_true rfl) ?_
  intro p e s m below meth c hx hb hr hml hts hown hlk hS hZ hP hV ls hl
  have hl : lv_has ls 3 [(0, .ref (xa x (6 + g))), (1, .int fr), (2, .int to)] := hl
  have hw_f22 := hts (.fieldLink RX0 22 "CableOffice$Ground" "from" "I") (by decide +kernel)
  have hinX0 : ∀ w ∈ wsX00, w ∈ wsX0_setMonths := by decide +kernel
  have hw_f25 := hts (.fieldLink RX0 25 "CableOffice$Ground" "to" "I") (by decide +kernel)
  refine lv_aload_n hx hb dX0_setMonths_0 rfl (lv_at hl 0 rfl) ?_
  refine lv_iload_n hx hb dX0_setMonths_1 rfl (lv_at hl 1 rfl) ?_
  refine g_put (C := RX0) (T := TX0) (N := 9) hx hb hts hinX0 tyX0 tyX0_ok nmX0 hown hS hP hV (id := 6 + g) (by omega) (sh_g x _ (by omega)) rfl 4 (by decide) hw_f22 rfl (by decide +kernel) (Nat.le_of_ble_eq_true rfl) ((sh_g x _ (by omega)).trans rfl) dX0_setMonths_2 (fun H locs hP hV => ?_)
  refine lv_aload_n hx hb dX0_setMonths_5 rfl (lv_at hl 0 rfl) ?_
  refine lv_iload_n hx hb dX0_setMonths_6 rfl (lv_at hl 2 rfl) ?_
  refine g_put (C := RX0) (T := TX0) (N := 9) hx hb hts hinX0 tyX0 tyX0_ok nmX0 hown hS hP hV (id := 6 + g) (by omega) (sh_g x _ (by omega)) rfl 5 (by decide) hw_f25 rfl (by decide +kernel) (Nat.le_of_ble_eq_true rfl) ((sh_g x _ (by omega)).trans rfl) dX0_setMonths_7 (fun H locs hP hV => ?_)
  exact g_vret hx hb hr hlk hS hZ hP hV (Nat.le_of_ble_eq_true rfl) (Nat.le_of_ble_eq_true rfl) dX0_setMonths_10 (by rfl)
set_option maxHeartbeats 4000000 in
set_option maxRecDepth 100000 in
theorem c_X1_add (l : Launch) (x : Cx) (M : Nat → Nat → Int32) (i n : Nat) (px py : Int32) (hi : i < 9) (hn : M (11 + 3 * i) 2 = nI n) (hn8 : n < 8) : Met l yX1_add wsX1_add ({ frames := 0, cells := 0, slots := 0, locals := 0 }) (gP x M [.ref (xa x (11 + 3 * i)), .int px, .int py]) (gQ x none (up2 (up2 (up2 M (11 + 3 * i + 1) n px) (11 + 3 * i + 2) n py) (11 + 3 * i) 2 (nI (n + 1)))) 0 0 (gF x) := by
  refine g_met (cc := cX1_add) (maxL := 3) (ret := none) (by decide) rfl (Nat.le_of_ble_eq_true rfl) ?_
  intro p e s m below meth c hx hb hr hml hts hown hlk hS hZ hP hV ls hl
  have hl : lv_has ls 3 [(0, .ref (xa x (11 + 3 * i))), (1, .int px), (2, .int py)] := hl
  have hw_f9 := hts (.fieldLink RX1 9 "CableOffice$Route" "x" "[I") (by decide +kernel)
  have hinX1 : ∀ w ∈ wsX10, w ∈ wsX1_add := by decide +kernel
  have hw_f18 := hts (.fieldLink RX1 18 "CableOffice$Route" "points" "I") (by decide +kernel)
  have hw_f15 := hts (.fieldLink RX1 15 "CableOffice$Route" "y" "[I") (by decide +kernel)
  refine lv_aload_n hx hb dX1_add_0 rfl (lv_at hl 0 rfl) ?_
  refine g_get (C := RX1) (T := TX1) (N := 3) (v := .ref (xa x (11 + 3 * i + 1))) hx hb hts hinX1 hown hS hP (id := 11 + 3 * i) (by omega) (sh_r x _ (by omega)) rfl 0 (by decide) hw_f9 rfl dX1_add_1 ?_
  refine lv_aload_n hx hb dX1_add_4 rfl (lv_at hl 0 rfl) ?_
  refine g_get (C := RX1) (T := TX1) (N := 3) (v := .int (nI n)) hx hb hts hinX1 hown hS hP (id := 11 + 3 * i) (by omega) (sh_r x _ (by omega)) rfl 2 (by decide) hw_f18 (congrArg (fun z => some (Value.int z)) hn) dX1_add_5 ?_
  refine lv_iload_n hx hb dX1_add_8 rfl (lv_at hl 1 rfl) ?_
  refine g_iast (j := n) hx hb hS hP hV (id := 11 + 3 * i + 1) (by omega) (fun r => sh_x x r (by omega)) (by decide) rfl (by omega) dX1_add_9 (fun H locs hP hV => ?_)
  have hn_1 : (up2 M (11 + 3 * i + 1) n px) (11 + 3 * i) 2 = nI n := by simp only [up2]; rw [if_neg (by omega)]; exact hn
  refine lv_aload_n hx hb dX1_add_10 rfl (lv_at hl 0 rfl) ?_
  refine g_get (C := RX1) (T := TX1) (N := 3) (v := .ref (xa x (11 + 3 * i + 2))) hx hb hts hinX1 hown hS hP (id := 11 + 3 * i) (by omega) (sh_r x _ (by omega)) rfl 1 (by decide) hw_f15 rfl dX1_add_11 ?_
  refine lv_aload_n hx hb dX1_add_14 rfl (lv_at hl 0 rfl) ?_
  refine g_get (C := RX1) (T := TX1) (N := 3) (v := .int (nI n)) hx hb hts hinX1 hown hS hP (id := 11 + 3 * i) (by omega) (sh_r x _ (by omega)) rfl 2 (by decide) hw_f18 (congrArg (fun z => some (Value.int z)) hn_1) dX1_add_15 ?_
  refine lv_iload_n hx hb dX1_add_18 rfl (lv_at hl 2 rfl) ?_
  refine g_iast (j := n) hx hb hS hP hV (id := 11 + 3 * i + 2) (by omega) (fun r => sh_y x r (by omega)) (by decide) rfl (by omega) dX1_add_19 (fun H locs hP hV => ?_)
  have hn_2 : (up2 (up2 M (11 + 3 * i + 1) n px) (11 + 3 * i + 2) n py) (11 + 3 * i) 2 = nI n := by simp only [up2]; rw [if_neg (by omega)]; exact hn_1
  refine lv_aload_n hx hb dX1_add_20 rfl (lv_at hl 0 rfl) ?_
  refine lv_dup hx hb dX1_add_21 rfl ?_
  refine g_get (C := RX1) (T := TX1) (N := 3) (v := .int (nI n)) hx hb hts hinX1 hown hS hP (id := 11 + 3 * i) (by omega) (sh_r x _ (by omega)) rfl 2 (by decide) hw_f18 (congrArg (fun z => some (Value.int z)) hn_2) dX1_add_22 ?_
  refine lv_iconst (v := 1) hx hb dX1_add_25 (by decide) ?_
  refine h_iadd (v := nI (n + 1)) hx hb dX1_add_26 (nI_add (n) (1)) ?_
  refine g_put (C := RX1) (T := TX1) (N := 3) hx hb hts hinX1 tyX1 tyX1_ok nmX1 hown hS hP hV (id := 11 + 3 * i) (by omega) (sh_r x _ (by omega)) rfl 2 (by decide) hw_f18 rfl (by decide +kernel) (Nat.le_of_ble_eq_true rfl) ((sh_r x _ (by omega)).trans rfl) dX1_add_27 (fun H locs hP hV => ?_)
  exact g_vret hx hb hr hlk hS hZ hP hV (Nat.le_of_ble_eq_true rfl) (Nat.le_of_ble_eq_true rfl) dX1_add_30 (by rfl)
set_option maxHeartbeats 4000000 in
set_option maxRecDepth 100000 in
theorem c_X1_takeAllOf (l : Launch) (x : Cx) (M : Nat → Nat → Int32) (i j : Nat) (hi : i < 9) (hj : j < 9) : Met l yX1_takeAllOf wsX1_takeAllOf ({ frames := 1, cells := 0, slots := 0, locals := 60 }) (gP x M [.ref (xa x (11 + 3 * i)), .ref (xa x (11 + 3 * j))]) (gQ x none (up2 (cpR (cpR M (11 + 3 * j + 1) (11 + 3 * i + 1)) (11 + 3 * j + 2) (11 + 3 * i + 2)) (11 + 3 * i) 2 ((cpR (cpR M (11 + 3 * j + 1) (11 + 3 * i + 1)) (11 + 3 * j + 2) (11 + 3 * i + 2)) (11 + 3 * j) 2))) 0 0 (gF x) := by
  refine g_met (cc := cX1_takeAllOf) (maxL := 2) (ret := none) (by decide) rfl (Nat.le_of_ble_eq_true rfl) ?_
  intro p e s m below meth c hx hb hr hml hts hown hlk hS hZ hP hV ls hl
  have hl : lv_has ls 2 [(0, .ref (xa x (11 + 3 * i))), (1, .ref (xa x (11 + 3 * j)))] := hl
  have hw_f9 := hts (.fieldLink RX1 9 "CableOffice$Route" "x" "[I") (by decide +kernel)
  have hinX1 : ∀ w ∈ wsX10, w ∈ wsX1_takeAllOf := by decide +kernel
  have hw_m22 := hts (.methodLink RX1 22 arraycopyName) (by decide +kernel)
  have hw_ncopy := hts (.native arraycopyName) (by decide +kernel)
  have hw_scopy := hts (.static arraycopyName) (by decide +kernel)
  have hw_iSystem := hts (.initialized "java/lang/System") (by decide +kernel)
  have hw_f15 := hts (.fieldLink RX1 15 "CableOffice$Route" "y" "[I") (by decide +kernel)
  have hw_f18 := hts (.fieldLink RX1 18 "CableOffice$Route" "points" "I") (by decide +kernel)
  refine lv_aload_n hx hb dX1_takeAllOf_0 rfl (lv_at hl 1 rfl) ?_
  refine g_get (C := RX1) (T := TX1) (N := 3) (v := .ref (xa x (11 + 3 * j + 1))) hx hb hts hinX1 hown hS hP (id := 11 + 3 * j) (by omega) (sh_r x _ (by omega)) rfl 0 (by decide) hw_f9 rfl dX1_takeAllOf_1 ?_
  refine lv_iconst (v := 0) hx hb dX1_takeAllOf_4 (by decide) ?_
  refine lv_aload_n hx hb dX1_takeAllOf_5 rfl (lv_at hl 0 rfl) ?_
  refine g_get (C := RX1) (T := TX1) (N := 3) (v := .ref (xa x (11 + 3 * i + 1))) hx hb hts hinX1 hown hS hP (id := 11 + 3 * i) (by omega) (sh_r x _ (by omega)) rfl 0 (by decide) hw_f9 rfl dX1_takeAllOf_6 ?_
  refine lv_iconst (v := 0) hx hb dX1_takeAllOf_9 (by decide) ?_
  refine lv_bipush (v := 8) hx hb dX1_takeAllOf_10 (by decide) ?_
  refine g_copy hx hb (hml.trans hl.1.symm) hown hw_m22 hw_ncopy hw_scopy hw_iSystem hS hP hV (i0 := 11 + 3 * j + 1) (i1 := 11 + 3 * i + 1) (by omega) (by omega) (fun r => sh_x x r (by omega)) (fun r => sh_x x r (by omega)) (Nat.le_of_ble_eq_true rfl) (Nat.le_of_ble_eq_true rfl) dX1_takeAllOf_12 (fun H locs hP hV => ?_)
  refine lv_aload_n hx hb dX1_takeAllOf_15 rfl (lv_at hl 1 rfl) ?_
  refine g_get (C := RX1) (T := TX1) (N := 3) (v := .ref (xa x (11 + 3 * j + 2))) hx hb hts hinX1 hown hS hP (id := 11 + 3 * j) (by omega) (sh_r x _ (by omega)) rfl 1 (by decide) hw_f15 rfl dX1_takeAllOf_16 ?_
  refine lv_iconst (v := 0) hx hb dX1_takeAllOf_19 (by decide) ?_
  refine lv_aload_n hx hb dX1_takeAllOf_20 rfl (lv_at hl 0 rfl) ?_
  refine g_get (C := RX1) (T := TX1) (N := 3) (v := .ref (xa x (11 + 3 * i + 2))) hx hb hts hinX1 hown hS hP (id := 11 + 3 * i) (by omega) (sh_r x _ (by omega)) rfl 1 (by decide) hw_f15 rfl dX1_takeAllOf_21 ?_
  refine lv_iconst (v := 0) hx hb dX1_takeAllOf_24 (by decide) ?_
  refine lv_bipush (v := 8) hx hb dX1_takeAllOf_25 (by decide) ?_
  refine g_copy hx hb (hml.trans hl.1.symm) hown hw_m22 hw_ncopy hw_scopy hw_iSystem hS hP hV (i0 := 11 + 3 * j + 2) (i1 := 11 + 3 * i + 2) (by omega) (by omega) (fun r => sh_y x r (by omega)) (fun r => sh_y x r (by omega)) (Nat.le_of_ble_eq_true rfl) (Nat.le_of_ble_eq_true rfl) dX1_takeAllOf_27 (fun H locs hP hV => ?_)
  refine lv_aload_n hx hb dX1_takeAllOf_30 rfl (lv_at hl 0 rfl) ?_
  refine lv_aload_n hx hb dX1_takeAllOf_31 rfl (lv_at hl 1 rfl) ?_
  refine g_get (C := RX1) (T := TX1) (N := 3) (v := .int ((cpR (cpR M (11 + 3 * j + 1) (11 + 3 * i + 1)) (11 + 3 * j + 2) (11 + 3 * i + 2)) (11 + 3 * j) 2)) hx hb hts hinX1 hown hS hP (id := 11 + 3 * j) (by omega) (sh_r x _ (by omega)) rfl 2 (by decide) hw_f18 rfl dX1_takeAllOf_32 ?_
  refine g_put (C := RX1) (T := TX1) (N := 3) hx hb hts hinX1 tyX1 tyX1_ok nmX1 hown hS hP hV (id := 11 + 3 * i) (by omega) (sh_r x _ (by omega)) rfl 2 (by decide) hw_f18 rfl (by decide +kernel) (Nat.le_of_ble_eq_true rfl) ((sh_r x _ (by omega)).trans rfl) dX1_takeAllOf_35 (fun H locs hP hV => ?_)
  exact g_vret hx hb hr hlk hS hZ hP hV (Nat.le_of_ble_eq_true rfl) (Nat.le_of_ble_eq_true rfl) dX1_takeAllOf_38 (by rfl)
end
section
/-! What the office's own methods answer. -/
def tn (a : Int32) : Nat := a.toNatClampNeg
theorem tn_nI {j : Nat} (h : j < 2 ^ 31) : tn (nI j) = j := nI_clamp h
def orE (a b : Option String) : Option String := match a with
  | none => b
  | some e => some e
theorem orE_none (b : Option String) : orE none b = b := rfl
theorem orE_some (e : String) (b : Option String) : orE (some e) b = some e := rfl
theorem orE_eq_none {a b : Option String} : orE a b = none ↔ a = none ∧ b = none := by cases a <;> simp [orE]
def erPl (px py : Int32) : Option String := if px < 0 ∨ 99 < px ∨ py < 0 ∨ ¬ py ≤ 99 then some eA else none
def erMo (mo : Int32) : Option String := if mo < 0 ∨ ¬ mo ≤ 11 then some eA else none
def erC (cn : Nat) (a : Int32) : Option String := if a < 0 ∨ ¬ a < nI cn then some eX else none
def erCC (cn : Nat) (a b : Int32) : Option String := orE (erC cn a) (erC cn b)
def erPt (cn : Nat) (pn : Nat → Nat) (a q : Int32) : Option String := orE (erC cn a) (if q < 0 ∨ ¬ q < nI (pn (tn a) + 1) then some eX else none)
def erPc (cn : Nat) (pn : Nat → Nat) (a q : Int32) : Option String := orE (erC cn a) (if q < 0 ∨ ¬ q < nI (pn (tn a)) then some eX else none)
theorem lt_nI {a : Int32} {n : Nat} (hn : n < 2 ^ 31) (h1 : ¬ a < 0) (h2 : a < nI n) : ∃ j : Nat, j < n ∧ a = nI j := by
  obtain ⟨j, hj, rfl⟩ := nI_of h1
  exact ⟨j, (nI_ltI hj hn).mp h2, rfl⟩
theorem erC_none {cn : Nat} (hn : cn ≤ 8) {a : Int32} (h : erC cn a = none) : ∃ j : Nat, j < cn ∧ a = nI j := by
  unfold erC at h
  by_cases h1 : a < 0
  · rw [if_pos (Or.inl h1)] at h; cases h
  · by_cases h2 : a < nI cn
    · exact lt_nI (by omega) h1 h2
    · rw [if_pos (Or.inr h2)] at h; cases h
theorem erCC_none {cn : Nat} (hn : cn ≤ 8) {a b : Int32} (h : erCC cn a b = none) : ∃ j k : Nat, j < cn ∧ a = nI j ∧ k < cn ∧ b = nI k := by
  obtain ⟨h1, h2⟩ := orE_eq_none.mp h
  obtain ⟨j, hj, e⟩ := erC_none hn h1
  obtain ⟨k, hk, e2⟩ := erC_none hn h2
  exact ⟨j, k, hj, e, hk, e2⟩
theorem erPt_none {cn : Nat} {pn : Nat → Nat} (hn : cn ≤ 8) {a q : Int32} (hp : ∀ i, i < cn → pn i ≤ 7) (h : erPt cn pn a q = none) : ∃ j k : Nat, j < cn ∧ a = nI j ∧ k < pn j + 1 ∧ q = nI k := by
  obtain ⟨h1, h2⟩ := orE_eq_none.mp h
  obtain ⟨j, hj, e⟩ := erC_none hn h1
  subst e
  rw [tn_nI (by omega)] at h2
  have h7 := hp j hj
  by_cases g1 : q < 0
  · rw [if_pos (Or.inl g1)] at h2; cases h2
  · by_cases g2 : q < nI (pn j + 1)
    · obtain ⟨k, hk, e2⟩ := lt_nI (by omega) g1 g2
      exact ⟨j, k, hj, rfl, hk, e2⟩
    · rw [if_pos (Or.inr g2)] at h2; cases h2
theorem erPc_none {cn : Nat} {pn : Nat → Nat} (hn : cn ≤ 8) {a q : Int32} (hp : ∀ i, i < cn → pn i ≤ 7) (h : erPc cn pn a q = none) : ∃ j k : Nat, j < cn ∧ a = nI j ∧ k < pn j ∧ q = nI k := by
  obtain ⟨h1, h2⟩ := orE_eq_none.mp h
  obtain ⟨j, hj, e⟩ := erC_none hn h1
  subst e
  rw [tn_nI (by omega)] at h2
  have h7 := hp j hj
  by_cases g1 : q < 0
  · rw [if_pos (Or.inl g1)] at h2; cases h2
  · by_cases g2 : q < nI (pn j)
    · obtain ⟨k, hk, e2⟩ := lt_nI (by omega) g1 g2
      exact ⟨j, k, hj, rfl, hk, e2⟩
    · rw [if_pos (Or.inr g2)] at h2; cases h2
/-- the numbers that the office's memory keeps: cables, grounds, the draft's points, each cable's pieces -/
def OkO (M : Nat → Nat → Int32) (cn gn dn : Nat) (pn : Nat → Nat) : Prop := M 0 2 = nI cn ∧ cn ≤ 8 ∧ M 0 7 = nI gn ∧ gn ≤ 5 ∧ M (11 + 3 * 8) 2 = nI dn ∧ dn ≤ 8 ∧ ∀ i, i < cn → M (11 + 3 * i) 2 = nI (pn i + 1) ∧ 1 ≤ pn i ∧ pn i ≤ 7
theorem OkO.c {M : Nat → Nat → Int32} {cn gn dn : Nat} {pn : Nat → Nat} (h : OkO M cn gn dn pn) : M 0 2 = nI cn := h.1
theorem OkO.c8 {M : Nat → Nat → Int32} {cn gn dn : Nat} {pn : Nat → Nat} (h : OkO M cn gn dn pn) : cn ≤ 8 := h.2.1
theorem OkO.g {M : Nat → Nat → Int32} {cn gn dn : Nat} {pn : Nat → Nat} (h : OkO M cn gn dn pn) : M 0 7 = nI gn := h.2.2.1
theorem OkO.g5 {M : Nat → Nat → Int32} {cn gn dn : Nat} {pn : Nat → Nat} (h : OkO M cn gn dn pn) : gn ≤ 5 := h.2.2.2.1
theorem OkO.d {M : Nat → Nat → Int32} {cn gn dn : Nat} {pn : Nat → Nat} (h : OkO M cn gn dn pn) : M (11 + 3 * 8) 2 = nI dn := h.2.2.2.2.1
theorem OkO.d8 {M : Nat → Nat → Int32} {cn gn dn : Nat} {pn : Nat → Nat} (h : OkO M cn gn dn pn) : dn ≤ 8 := h.2.2.2.2.2.1
theorem OkO.p {M : Nat → Nat → Int32} {cn gn dn : Nat} {pn : Nat → Nat} (h : OkO M cn gn dn pn) {i : Nat} (hi : i < cn) : M (11 + 3 * i) 2 = nI (pn i + 1) := (h.2.2.2.2.2.2 i hi).1
theorem OkO.p7 {M : Nat → Nat → Int32} {cn gn dn : Nat} {pn : Nat → Nat} (h : OkO M cn gn dn pn) {i : Nat} (hi : i < cn) : pn i ≤ 7 := (h.2.2.2.2.2.2 i hi).2.2
theorem OkO.keep {M M' : Nat → Nat → Int32} {cn gn dn : Nat} {pn : Nat → Nat} (h : OkO M cn gn dn pn) (h0 : M' 0 = M 0) (h1 : ∀ i, i < 9 → M' (11 + 3 * i) = M (11 + 3 * i)) : OkO M' cn gn dn pn := by
  obtain ⟨a1, a2, a3, a4, a5, a6, a7⟩ := h
  refine ⟨by rw [h0]; exact a1, a2, by rw [h0]; exact a3, a4, by rw [h1 8 (by omega)]; exact a5, a6, fun i hi => ?_⟩
  rw [h1 i (by omega)]
  exact a7 i hi
theorem OkO.up {M : Nat → Nat → Int32} {cn gn dn : Nat} {pn : Nat → Nat} (h : OkO M cn gn dn pn) {id k : Nat} {v : Int32} (h2 : 2 ≤ id ∧ id < 11) : OkO (up2 M id k v) cn gn dn pn :=
  h.keep (up2_ne M k v (by omega)) (fun i _ => up2_ne M k v (by omega))
def cntB (f : Nat → Bool) : Nat → Nat
  | 0 => 0
  | n + 1 => cntB f n + (if f n = true then 1 else 0)
def cnt2 (f : Nat → Nat → Bool) (u : Nat) : Nat → Nat
  | 0 => 0
  | n + 1 => cnt2 f u n + cntB (f n) u
def anyB (f : Nat → Bool) : Nat → Bool
  | 0 => false
  | n + 1 => anyB f n || f n
theorem anyB_of {f : Nat → Bool} {n k : Nat} (hk : k < n) (h : f k = true) : anyB f n = true := by
  induction n with
  | zero => omega
  | succ n ih =>
    rcases Nat.lt_or_ge k n with q | q
    · simp [anyB, ih q]
    · have : k = n := by omega
      subst this
      simp [anyB, h]
theorem cntB_le (f : Nat → Bool) : ∀ n, cntB f n ≤ n
  | 0 => Nat.le_refl _
  | n + 1 => by
    have h := cntB_le f n
    simp only [cntB]
    split <;> omega
theorem cnt2_le (f : Nat → Nat → Bool) (u : Nat) : ∀ n, cnt2 f u n ≤ n * u
  | 0 => Nat.zero_le _
  | n + 1 => by
    have h := cnt2_le f u n
    have h2 := cntB_le (f n) u
    simp only [cnt2, Nat.succ_mul]
    omega
def fX (b : Bool) (X Y X2 Y2 : Nat → Int32) (k m : Nat) : Bool := crO X Y k X2 Y2 m && (!b || stO X Y k X2 Y2 m)
def pr (a b : Nat) : Nat := 8 * min a b + max a b
theorem pr_lt {a b : Nat} (ha : a < 8) (hb : b < 8) : pr a b < 64 := by unfold pr; omega
theorem minI_n {a b : Nat} (ha : a < 2 ^ 31) (hb : b < 2 ^ 31) : minI (nI a) (nI b) = nI (min a b) := by
  unfold minI
  by_cases h : b < a
  · rw [if_pos ((nI_ltI hb ha).mpr h), Nat.min_eq_right (Nat.le_of_lt h)]
  · rw [if_neg (fun q => h ((nI_ltI hb ha).mp q)), Nat.min_eq_left (by omega)]
theorem maxI_n {a b : Nat} (ha : a < 2 ^ 31) (hb : b < 2 ^ 31) : maxI (nI a) (nI b) = nI (max a b) := by
  unfold maxI
  by_cases h : a < b
  · rw [if_pos ((nI_ltI ha hb).mpr h), Nat.max_eq_right (Nat.le_of_lt h)]
  · rw [if_neg (fun q => h ((nI_ltI ha hb).mp q)), Nat.max_eq_left (by omega)]
theorem pr_nI {a b : Nat} (ha : a < 8) (hb : b < 8) : 8 * minI (nI a) (nI b) + maxI (nI a) (nI b) = nI (pr a b) := by
  rw [minI_n (by omega) (by omega), maxI_n (by omega) (by omega), pr, ← nI_add, ← pk_mul]
  rfl
def rX (M : Nat → Nat → Int32) (i : Nat) : Nat → Int32 := M (11 + 3 * i + 1)
def rY (M : Nat → Nat → Int32) (i : Nat) : Nat → Int32 := M (11 + 3 * i + 2)
def cnX (bb : Bool) (M : Nat → Nat → Int32) (pn : Nat → Nat) (a b : Nat) : Nat := cnt2 (fX bb (rX M a) (rY M a) (rX M b) (rY M b)) (pn b) (pn a)
def recM (M : Nat → Nat → Int32) (pn : Nat → Nat) (a b : Nat) : Nat → Nat → Int32 :=
  up2 (up2 M 2 (pr a b) (nI (cnX false M pn a b))) 3 (pr a b) (nI (cnX true (up2 M 2 (pr a b) (nI (cnX false M pn a b))) pn a b))
def weO (M : Nat → Nat → Int32) (a b : Nat) : Bool := !decide (M 2 (pr a b) ≤ 0) && decide (M 3 (pr a b) = M 2 (pr a b))
def drO (M : Nat → Nat → Int32) (a b : Nat) : Bool := !decide (M 4 (pr a b) = 0) && !weO M a b
def baO (M : Nat → Nat → Int32) (a b : Nat) : Bool := !decide (M 2 (pr a b) ≤ 0) && decide (M 4 (pr a b) = 0)
def bpO (M : Nat → Nat → Int32) (cn : Nat) : Nat → Nat
  | 0 => 0
  | b + 1 => bpO M cn b + cntB (fun j => baO M b (b + 1 + j)) (cn - (b + 1))
theorem bpO_le (M : Nat → Nat → Int32) (cn : Nat) : ∀ b, bpO M cn b ≤ b * cn
  | 0 => Nat.zero_le _
  | b + 1 => by
    have h := bpO_le M cn b
    have h2 := cntB_le (fun j => baO M b (b + 1 + j)) (cn - (b + 1))
    simp only [bpO, Nat.succ_mul]
    omega
def bitL (y : Nat) : Int64 := (1 : Int64) <<< ((nI y).toInt64 &&& 63)
def inL (L : Int64) (y : Nat) : Bool := !decide (lg_cmp (L &&& bitL y) 0 = 0)
def loO2 (M : Nat → Nat → Int32) (pn : Nat → Nat) (L : Int64) (b a q : Nat) : Bool := anyB (fun k => inL L (8 * b + k) && crO (rX M b) (rY M b) k (rX M a) (rY M a) q) (pn b)
def lyO (M : Nat → Nat → Int32) (pn : Nat → Nat) (L : Int64) (b a : Nat) : Nat → Int64
  | 0 => 0
  | q + 1 => if loO2 M pn L b a q = true then lyO M pn L b a q ||| bitL (8 * a + q) else lyO M pn L b a q
def lwB (M : Nat → Nat → Int32) (pn : Nat → Nat) (cb a : Nat) (L0 : Int64) : Nat → Int64
  | 0 => L0
  | j + 1 => lwB M pn cb a L0 j ||| lyO M pn (lwB M pn cb a L0 j) (cb + j) a (pn a)
def lwA (M : Nat → Nat → Int32) (pn : Nat → Nat) (cb q : Nat) : Nat → Int64
  | 0 => bitL (8 * cb + q)
  | t + 1 => lwB M pn cb (cb + 1 + t) (lwA M pn cb q t) (t + 1)
def badO (M : Nat → Nat → Int32) (pn : Nat → Nat) (L : Int64) (a b : Nat) : Bool := decide (M 4 (pr b a) = 0) && !decide (lg_cmp (lyO M pn L b a (pn a)) 0 = 0)
def psO (M : Nat → Nat → Int32) (pn : Nat → Nat) (L : Int64) (cn : Nat) : Bool := !anyB (fun a => anyB (badO M pn L a) a) cn
def mbO (M : Nat → Nat → Int32) (pn : Nat → Nat) (L : Int64) (g c : Nat) : Bool := anyB (fun q => inL L (8 * c + q) && mtO (rX M c) (rY M c) q (M (6 + g) 0) (M (6 + g) 1) (M (6 + g) 2) (M (6 + g) 3)) (pn c)
def owO (M : Nat → Nat → Int32) (pn : Nat → Nat) (cn : Nat) (L : Int64) (mo : Int32) (g : Nat) : Bool := shutO (M (6 + g) 4) (M (6 + g) 5) mo && anyB (mbO M pn L g) cn
def bcI (L : Int64) : Int32 :=
  let a := L - ((L.toUInt64 >>> ((1 : Int32).toInt64.toUInt64 &&& Int64.toUInt64 63)).toInt64 &&& 6148914691236517205)
  let b := (a &&& 3689348814741910323) + ((a.toUInt64 >>> ((2 : Int32).toInt64.toUInt64 &&& Int64.toUInt64 63)).toInt64 &&& 3689348814741910323)
  let d := (b + (b.toUInt64 >>> ((4 : Int32).toInt64.toUInt64 &&& Int64.toUInt64 63)).toInt64) &&& 1085102592571150095
  let f := d + (d.toUInt64 >>> ((8 : Int32).toInt64.toUInt64 &&& Int64.toUInt64 63)).toInt64
  let g := f + (f.toUInt64 >>> ((16 : Int32).toInt64.toUInt64 &&& Int64.toUInt64 63)).toInt64
  let h := g + (g.toUInt64 >>> ((32 : Int32).toInt64.toUInt64 &&& Int64.toUInt64 63)).toInt64
  h.toInt32 &&& 127
def coO (M : Nat → Nat → Int32) (pn : Nat → Nat) (cn : Nat) (L : Int64) (mo : Int32) : Nat → Int32
  | 0 => 10 * bcI L
  | g + 1 => if owO M pn cn L mo g = true then coO M pn cn L mo g + prO (M (6 + g) 6) (M (6 + g) 7) else coO M pn cn L mo g
def pgM (M : Nat → Nat → Int32) (pn : Nat → Nat) (cn : Nat) (L : Int64) (mo : Int32) : Nat → Nat → Nat → Int32
  | 0 => M
  | g + 1 => if owO (pgM M pn cn L mo g) pn cn L mo g = true then up2 (pgM M pn cn L mo g) (6 + g) 8 (pgM M pn cn L mo g (6 + g) 8 + prO (pgM M pn cn L mo g (6 + g) 6) (pgM M pn cn L mo g (6 + g) 7)) else pgM M pn cn L mo g
theorem pgM_ok {M : Nat → Nat → Int32} {cn gn dn : Nat} {pn : Nat → Nat} (h : OkO M cn gn dn pn) {L : Int64} {mo : Int32} : ∀ g, g ≤ gn → OkO (pgM M pn cn L mo g) cn gn dn pn
  | 0, _ => h
  | g + 1, hg => by
    have ih := pgM_ok h (L := L) (mo := mo) g (by omega)
    have h5 := h.g5
    simp only [pgM]
    split
    · exact ih.up (by omega)
    · exact ih
theorem g_metF {l : Launch} {y : MethodName} {ws ws' : List Cond} {rm : Room} {x : Cx} {M : Nat → Nat → Int32} {as : List Value} {Qc : Array Value → State → Outcome → State → Prop} {mc ms : Nat} {free : Addr → Prop} {cc : ByteArray} {maxL : Nat} {ret : Option FieldType} (hy : plainFor y = true) (hw : ws = Cond.code y cc maxL ret :: ws') (hlen : (lg_sl as).length ≤ maxL)
    (body : ∀ (p : Program) (e : Env) (s : State) (m : MethodId) (below : List Frame) (meth : Method) (c : Code), p.tables.exec = Jvm.exec → c.code = cc → meth.sig.returnType = ret → c.maxLocals = maxL → (∀ w ∈ ws, w.before as.toArray s = true) → s.vm.findClass y.cls = some m.cls → meth.locks = false → GS x s → GZ x s s.heap → va_P (xD x) vwCl (wAll x M) s.heap → va_S (gF x) s.heap s.heap [] → ∀ ls : Array Slot, lv_has ls maxL (lv_args 0 as) →
      W p l e rm s m as.toArray below meth c s.heap [] 0 0 (MQ below Qc as.toArray s mc ms free) (F0 m 0 ls [])) : Met l y ws rm (gP x M as) Qc mc ms free := by
  refine va_MetF (cc := cc) (maxL := maxL) (ret := ret) hy hw ?_
  intro p e s m args below meth c s₁ B hml hv
  obtain ⟨rfl, hS, hP, hZ⟩ := hv
  rw [lg_entry_eq]
  exact body p e s m below meth c B.exec B.bytes B.returns hml (atoms_spec (ws := ws) B.pre) (findClass_of_methodNamed B.named) B.notSynchronized hS hZ hP va_S.rf _ (lv_entry as hlen)
theorem cntB_t {f : Nat → Bool} {t : Nat} (h : f t = true) : cntB f (t + 1) = cntB f t + 1 := by simp [cntB, h]
theorem cntB_f {f : Nat → Bool} {t : Nat} (h : f t = false) : cntB f (t + 1) = cntB f t := by simp [cntB, h]
theorem anyB_f {f : Nat → Bool} {t : Nat} (h : anyB f t = false) (h2 : f t = false) : anyB f (t + 1) = false := by simp [anyB, h, h2]
end
section
set_option maxHeartbeats 4000000 in
set_option maxRecDepth 100000 in
theorem c_X2_pairOf (l : Launch) (x : Cx) (M : Nat → Nat → Int32) (a b : Nat) (ha : a < 8) (hb8 : b < 8) : Met l yX2_pairOf wsX2_pairOf ({ frames := 1, cells := 0, slots := 0, locals := 21 }) (gP x M [.int (nI a), .int (nI b)]) (gQ x (some (.int (nI (pr a b)))) M) 0 0 (gF x) := by
  refine g_met (cc := cX2_pairOf) (maxL := 2) (ret := some .int) (by decide) rfl (Nat.le_of_ble_eq_true rfl) ?_
  intro p e s m below meth c hx hb hr hml hts hown hlk hS hZ hP hV ls hl
  have hl : lv_has ls 2 [(0, .int (nI a)), (1, .int (nI b))] := hl
  have hw_m207 := hts (.methodLink RX2 207 Lib.Math.min.name) (by decide +kernel)
  have hw_smin := hts (.static Lib.Math.min.name) (by decide +kernel)
  have hw_iMath := hts (.initialized "java/lang/Math") (by decide +kernel)
  have hw_cmin := hts (.code Lib.Math.min.name Lib.Math.min.code 2 (some .int)) (by decide +kernel)
  have hw_m212 := hts (.methodLink RX2 212 Lib.Math.max.name) (by decide +kernel)
  have hw_smax := hts (.static Lib.Math.max.name) (by decide +kernel)
  have hw_cmax := hts (.code Lib.Math.max.name Lib.Math.max.code 2 (some .int)) (by decide +kernel)
  refine lv_bipush (v := 8) hx hb dX2_pairOf_0 (by decide) ?_
  refine lv_iload_n hx hb dX2_pairOf_2 rfl (lv_at hl 0 rfl) ?_
  refine lv_iload_n hx hb dX2_pairOf_3 rfl (lv_at hl 1 rfl) ?_
  refine h_min hx hb (hml.trans hl.1.symm) hown hw_m207 hw_smin hw_iMath hw_cmin (Nat.le_of_ble_eq_true rfl) (Nat.le_of_ble_eq_true rfl) (Nat.le_of_ble_eq_true rfl) (Nat.le_of_ble_eq_true rfl) dX2_pairOf_4 ?_
  refine lv_imul hx hb dX2_pairOf_7 ?_
  refine lv_iload_n hx hb dX2_pairOf_8 rfl (lv_at hl 0 rfl) ?_
  refine lv_iload_n hx hb dX2_pairOf_9 rfl (lv_at hl 1 rfl) ?_
  refine h_max hx hb (hml.trans hl.1.symm) hown hw_m212 hw_smax hw_iMath hw_cmax (Nat.le_of_ble_eq_true rfl) (Nat.le_of_ble_eq_true rfl) (Nat.le_of_ble_eq_true rfl) (Nat.le_of_ble_eq_true rfl) dX2_pairOf_10 ?_
  refine lv_iadd hx hb dX2_pairOf_13 ?_
  exact g_iret hx hb hr hlk hS hZ hP hV (Nat.le_of_ble_eq_true rfl) (Nat.le_of_ble_eq_true rfl) dX2_pairOf_14 (by exact pr_nI ha hb8) (by rfl)
set_option maxHeartbeats 4000000 in
set_option maxRecDepth 100000 in
theorem c_X2_bitOf (l : Launch) (x : Cx) (M : Nat → Nat → Int32) (a b : Nat) : Met l yX2_bitOf wsX2_bitOf ({ frames := 0, cells := 0, slots := 0, locals := 0 }) (gP x M [.int (nI a), .int (nI b)]) (gQ x (some (.long (bitL (8 * a + b)))) M) 0 0 (gF x) := by
  refine g_met (cc := cX2_bitOf) (maxL := 2) (ret := some .long) (by decide) rfl (Nat.le_of_ble_eq_true rfl) ?_
  intro p e s m below meth c hx hb hr hml hts hown hlk hS hZ hP hV ls hl
  have hl : lv_has ls 2 [(0, .int (nI a)), (1, .int (nI b))] := hl
  refine lv_lconst (v := 1) hx hb dX2_bitOf_0 (by decide) ?_
  refine lv_bipush (v := 8) hx hb dX2_bitOf_1 (by decide) ?_
  refine lv_iload_n hx hb dX2_bitOf_3 rfl (lv_at hl 0 rfl) ?_
  refine h_imul (v := nI (8 * a)) hx hb dX2_bitOf_4 (pk_mul (8) (a)) ?_
  refine lv_iload_n hx hb dX2_bitOf_5 rfl (lv_at hl 1 rfl) ?_
  refine h_iadd (v := nI (8 * a + b)) hx hb dX2_bitOf_6 (nI_add (8 * a) (b)) ?_
  refine lv_lshl (v := bitL (8 * a + b)) hx hb dX2_bitOf_7 rfl ?_
  exact g_lret hx hb hr hlk hS hZ hP hV (Nat.le_of_ble_eq_true rfl) (Nat.le_of_ble_eq_true rfl) dX2_bitOf_8 (by rfl) (by rfl)
set_option maxHeartbeats 4000000 in
set_option maxRecDepth 100000 in
theorem c_X2_isIn (l : Launch) (x : Cx) (M : Nat → Nat → Int32) (L : Int64) (a b : Nat) : Met l yX2_isIn wsX2_isIn ({ frames := 1, cells := 0, slots := 0, locals := 21 }) (gP x M [.long L, .int (nI a), .int (nI b)]) (gQ x (some (.int (bI (inL L (8 * a + b))))) M) 0 0 (gF x) := by
  refine g_met (cc := cX2_isIn) (maxL := 4) (ret := some .boolean) (by decide) rfl (Nat.le_of_ble_eq_true rfl) ?_
  intro p e s m below meth c hx hb hr hml hts hown hlk hS hZ hP hV ls hl
  have hl : lv_has ls 4 [(0, .long L), (2, .int (nI a)), (3, .int (nI b))] := hl
  refine lv_lload_n hx hb dX2_isIn_0 rfl (lv_at hl 0 rfl) ?_
  refine lv_iload_n hx hb dX2_isIn_1 rfl (lv_at hl 1 rfl) ?_
  refine lv_iload_n hx hb dX2_isIn_2 rfl (lv_at hl 2 rfl) ?_
  refine g_call1 (va_runS (As := [.int (nI a), .int (nI b)]) (rest := [.long L]) ⟨hx, hb, hml, hown, hts⟩ (c_X2_bitOf l x M a b) (va_cwS 2 hts gX2_isIn_X2_bitOf rfl rfl rfl (by decide +kernel) ⟨Nat.le_of_ble_eq_true rfl, Nat.le_of_ble_eq_true rfl⟩) (g_preS hS hZ hP hV [.int (nI a), .int (nI b)]) rfl rfl hl.1 rfl (lv_room (Nat.le_of_ble_eq_true rfl)) dX2_isIn_3 ⟨Nat.le_of_ble_eq_true rfl, Nat.le_of_ble_eq_true rfl⟩) hV (fun H locs hP hV => ?_)
  refine lv_land hx hb dX2_isIn_6 ?_
  refine lv_lconst (v := 0) hx hb dX2_isIn_7 (by decide) ?_
  refine W.lcmp hx hb dX2_isIn_8 ?_
  refine lv_if_eq (tgt := 16) hx hb dX2_isIn_9 (by decide) (fun c_1 => ?_) (fun c_1 => ?_)
  · -- taken
    refine lv_iconst (v := 0) hx hb dX2_isIn_16 (by decide) ?_
    exact g_zret hx hb hr hlk hS hZ hP hV (Nat.le_of_ble_eq_true rfl) (Nat.le_of_ble_eq_true rfl) dX2_isIn_17 (by decide) (by simp [inL, bI, c_1]) (by rfl)
  · -- on
    refine lv_iconst (v := 1) hx hb dX2_isIn_12 (by decide) ?_
    refine lv_goto (tgt := 17) hx hb dX2_isIn_13 (by decide) ?_
    exact g_zret hx hb hr hlk hS hZ hP hV (Nat.le_of_ble_eq_true rfl) (Nat.le_of_ble_eq_true rfl) dX2_isIn_17 (by decide) (by simp [inL, bI, c_1]) (by rfl)
set_option maxHeartbeats 4000000 in
set_option maxRecDepth 100000 in
theorem c_X2_demandPlace (l : Launch) (hlf : l.stackTraces = false) (x : Cx) (M : Nat → Nat → Int32) (px py : Int32) : vx_Met l yX2_demandPlace wsX2_demandPlace ({ frames := 6, cells := 1, slots := 6, locals := 90 }) (gP x M [.int px, .int py]) (gQx x (erPl px py) none M) (gX x (erPl px py) M) 1 6 (gF x) := by
  refine g_metx (cc := cX2_demandPlace) (maxL := 2) (ret := none) (by decide) rfl (Nat.le_of_ble_eq_true rfl) ?_
  intro p e s m below meth c hx hb hr hml hts hown hlk ht hS hZ hP hV ls hl
  have hl : lv_has ls 2 [(0, .int px), (1, .int py)] := hl
  have hw_k113 := hts (.classLink RX2 113 "java/lang/IllegalArgumentException") (by decide +kernel)
  have hw_i113 := hts (.initialized "java/lang/IllegalArgumentException") (by decide +kernel)
  have hat117 := exc_hat (ic := 117) (E := eA) hS (by decide +kernel) exc_h2_117 (fun w hw => hts w (List.mem_cons_of_mem _ (List.mem_append_right _ hw)))
  refine lv_iload_n hx hb dX2_demandPlace_0 rfl (lv_at hl 0 rfl) ?_
  refine lv_if_lt (tgt := 20) hx hb dX2_demandPlace_1 (by decide) (fun c_1 => ?_) (fun c_1 => ?_)
  · -- taken
    exact g_throw (E := eA) (ik := 113) (is := 186) (ic := 117) (text := _) hx hb ht hlf hown (by decide +kernel) hw_k113 hw_i113 (List.mem_of_getElem? (i := 6) rfl) hat117 exc_ot_117 hlk hS hZ hP hV (hl.1.trans hml.symm) dX2_demandPlace_20 dX2_demandPlace_23 dX2_demandPlace_24 dX2_demandPlace_26 dX2_demandPlace_29 (Nat.le_of_ble_eq_true rfl) (Nat.le_of_ble_eq_true rfl) (Nat.le_of_ble_eq_true rfl) (Nat.le_of_ble_eq_true rfl) (Nat.le_of_ble_eq_true rfl) (Nat.le_of_ble_eq_true rfl) (by simp [erPl, c_1]) rfl
  · -- on
    refine lv_iload_n hx hb dX2_demandPlace_4 rfl (lv_at hl 0 rfl) ?_
    refine lv_bipush (v := 99) hx hb dX2_demandPlace_5 (by decide) ?_
    refine lv_icmp_gt (tgt := 20) hx hb dX2_demandPlace_7 (by decide) (fun c_2 => ?_) (fun c_2 => ?_)
    · -- taken
      exact g_throw (E := eA) (ik := 113) (is := 186) (ic := 117) (text := _) hx hb ht hlf hown (by decide +kernel) hw_k113 hw_i113 (List.mem_of_getElem? (i := 6) rfl) hat117 exc_ot_117 hlk hS hZ hP hV (hl.1.trans hml.symm) dX2_demandPlace_20 dX2_demandPlace_23 dX2_demandPlace_24 dX2_demandPlace_26 dX2_demandPlace_29 (Nat.le_of_ble_eq_true rfl) (Nat.le_of_ble_eq_true rfl) (Nat.le_of_ble_eq_true rfl) (Nat.le_of_ble_eq_true rfl) (Nat.le_of_ble_eq_true rfl) (Nat.le_of_ble_eq_true rfl) (by simp [erPl, c_1, c_2]) rfl
    · -- on
      refine lv_iload_n hx hb dX2_demandPlace_10 rfl (lv_at hl 1 rfl) ?_
      refine lv_if_lt (tgt := 20) hx hb dX2_demandPlace_11 (by decide) (fun c_3 => ?_) (fun c_3 => ?_)
      · -- taken
        exact g_throw (E := eA) (ik := 113) (is := 186) (ic := 117) (text := _) hx hb ht hlf hown (by decide +kernel) hw_k113 hw_i113 (List.mem_of_getElem? (i := 6) rfl) hat117 exc_ot_117 hlk hS hZ hP hV (hl.1.trans hml.symm) dX2_demandPlace_20 dX2_demandPlace_23 dX2_demandPlace_24 dX2_demandPlace_26 dX2_demandPlace_29 (Nat.le_of_ble_eq_true rfl) (Nat.le_of_ble_eq_true rfl) (Nat.le_of_ble_eq_true rfl) (Nat.le_of_ble_eq_true rfl) (Nat.le_of_ble_eq_true rfl) (Nat.le_of_ble_eq_true rfl) (by simp [erPl, c_1, c_2, c_3]) rfl
      · -- on
        refine lv_iload_n hx hb dX2_demandPlace_14 rfl (lv_at hl 1 rfl) ?_
        refine lv_bipush (v := 99) hx hb dX2_demandPlace_15 (by decide) ?_
        refine lv_icmp_le (tgt := 30) hx hb dX2_demandPlace_17 (by decide) (fun c_4 => ?_) (fun c_4 => ?_)
        · -- taken
          refine g_mqx (by simp [erPl, c_1, c_2, c_3, c_4]) ?_
          exact g_vret hx hb hr hlk hS hZ hP hV (Nat.le_of_ble_eq_true rfl) (Nat.le_of_ble_eq_true rfl) dX2_demandPlace_30 (by rfl)
        · -- on
          exact g_throw (E := eA) (ik := 113) (is := 186) (ic := 117) (text := _) hx hb ht hlf hown (by decide +kernel) hw_k113 hw_i113 (List.mem_of_getElem? (i := 6) rfl) hat117 exc_ot_117 hlk hS hZ hP hV (hl.1.trans hml.symm) dX2_demandPlace_20 dX2_demandPlace_23 dX2_demandPlace_24 dX2_demandPlace_26 dX2_demandPlace_29 (Nat.le_of_ble_eq_true rfl) (Nat.le_of_ble_eq_true rfl) (Nat.le_of_ble_eq_true rfl) (Nat.le_of_ble_eq_true rfl) (Nat.le_of_ble_eq_true rfl) (Nat.le_of_ble_eq_true rfl) (by simp [erPl, c_1, c_2, c_3, c_4]) rfl
set_option maxHeartbeats 4000000 in
set_option maxRecDepth 100000 in
theorem c_X2_demandMonth (l : Launch) (hlf : l.stackTraces = false) (x : Cx) (M : Nat → Nat → Int32) (mo : Int32) : vx_Met l yX2_demandMonth wsX2_demandMonth ({ frames := 6, cells := 1, slots := 6, locals := 90 }) (gP x M [.int mo]) (gQx x (erMo mo) none M) (gX x (erMo mo) M) 1 6 (gF x) := by
  refine g_metx (cc := cX2_demandMonth) (maxL := 1) (ret := none) (by decide) rfl (Nat.le_of_ble_eq_true rfl) ?_
  intro p e s m below meth c hx hb hr hml hts hown hlk ht hS hZ hP hV ls hl
  have hl : lv_has ls 1 [(0, .int mo)] := hl
  have hw_k113 := hts (.classLink RX2 113 "java/lang/IllegalArgumentException") (by decide +kernel)
  have hw_i113 := hts (.initialized "java/lang/IllegalArgumentException") (by decide +kernel)
  have hat117 := exc_hat (ic := 117) (E := eA) hS (by decide +kernel) exc_h2_117 (fun w hw => hts w (List.mem_cons_of_mem _ (List.mem_append_right _ hw)))
  refine lv_iload_n hx hb dX2_demandMonth_0 rfl (lv_at hl 0 rfl) ?_
  refine lv_if_lt (tgt := 10) hx hb dX2_demandMonth_1 (by decide) (fun c_1 => ?_) (fun c_1 => ?_)
  · -- taken
    exact g_throw (E := eA) (ik := 113) (is := 188) (ic := 117) (text := _) hx hb ht hlf hown (by decide +kernel) hw_k113 hw_i113 (List.mem_of_getElem? (i := 7) rfl) hat117 exc_ot_117 hlk hS hZ hP hV (hl.1.trans hml.symm) dX2_demandMonth_10 dX2_demandMonth_13 dX2_demandMonth_14 dX2_demandMonth_16 dX2_demandMonth_19 (Nat.le_of_ble_eq_true rfl) (Nat.le_of_ble_eq_true rfl) (Nat.le_of_ble_eq_true rfl) (Nat.le_of_ble_eq_true rfl) (Nat.le_of_ble_eq_true rfl) (Nat.le_of_ble_eq_true rfl) (by simp [erMo, c_1]) rfl
  · -- on
    refine lv_iload_n hx hb dX2_demandMonth_4 rfl (lv_at hl 0 rfl) ?_
    refine lv_bipush (v := 11) hx hb dX2_demandMonth_5 (by decide) ?_
    refine lv_icmp_le (tgt := 20) hx hb dX2_demandMonth_7 (by decide) (fun c_2 => ?_) (fun c_2 => ?_)
    · -- taken
      refine g_mqx (by simp [erMo, c_1, c_2]) ?_
      exact g_vret hx hb hr hlk hS hZ hP hV (Nat.le_of_ble_eq_true rfl) (Nat.le_of_ble_eq_true rfl) dX2_demandMonth_20 (by rfl)
    · -- on
      exact g_throw (E := eA) (ik := 113) (is := 188) (ic := 117) (text := _) hx hb ht hlf hown (by decide +kernel) hw_k113 hw_i113 (List.mem_of_getElem? (i := 7) rfl) hat117 exc_ot_117 hlk hS hZ hP hV (hl.1.trans hml.symm) dX2_demandMonth_10 dX2_demandMonth_13 dX2_demandMonth_14 dX2_demandMonth_16 dX2_demandMonth_19 (Nat.le_of_ble_eq_true rfl) (Nat.le_of_ble_eq_true rfl) (Nat.le_of_ble_eq_true rfl) (Nat.le_of_ble_eq_true rfl) (Nat.le_of_ble_eq_true rfl) (Nat.le_of_ble_eq_true rfl) (by simp [erMo, c_1, c_2]) rfl
set_option maxHeartbeats 4000000 in
set_option maxRecDepth 100000 in
theorem c_X2_demandCable (l : Launch) (hlf : l.stackTraces = false) (x : Cx) (M : Nat → Nat → Int32) (cn gn dn : Nat) (pn : Nat → Nat) (a : Int32) (hO : OkO M cn gn dn pn) : vx_Met l yX2_demandCable wsX2_demandCable ({ frames := 6, cells := 1, slots := 6, locals := 90 }) (gP x M [.ref (xa x 0), .int a]) (gQx x (erC cn a) none M) (gX x (erC cn a) M) 1 6 (gF x) := by
  refine g_metx (cc := cX2_demandCable) (maxL := 2) (ret := none) (by decide) rfl (Nat.le_of_ble_eq_true rfl) ?_
  intro p e s m below meth c hx hb hr hml hts hown hlk ht hS hZ hP hV ls hl
  have hl : lv_has ls 2 [(0, .ref (xa x 0)), (1, .int a)] := hl
  have hw_k190 := hts (.classLink RX2 190 "java/lang/IndexOutOfBoundsException") (by decide +kernel)
  have hw_i190 := hts (.initialized "java/lang/IndexOutOfBoundsException") (by decide +kernel)
  have hat194 := exc_hat (ic := 194) (E := eX) hS (by decide +kernel) exc_h2_194 (fun w hw => hts w (List.mem_cons_of_mem _ (List.mem_append_right _ hw)))
  have hw_f20 := hts (.fieldLink RX2 20 "CableOffice" "cableCount" "I") (by decide +kernel)
  have hinX2 : ∀ w ∈ wsX20, w ∈ wsX2_demandCable := by decide +kernel
  have hc8 := hO.c8
  have hg5 := hO.g5
  have hd8 := hO.d8
  refine lv_iload_n hx hb dX2_demandCable_0 rfl (lv_at hl 1 rfl) ?_
  refine lv_if_lt (tgt := 12) hx hb dX2_demandCable_1 (by decide) (fun c_1 => ?_) (fun c_1 => ?_)
  · -- taken
    exact g_throw (E := eX) (ik := 190) (is := 192) (ic := 194) (text := _) hx hb ht hlf hown (by decide +kernel) hw_k190 hw_i190 (List.mem_of_getElem? (i := 8) rfl) hat194 exc_ot_194 hlk hS hZ hP hV (hl.1.trans hml.symm) dX2_demandCable_12 dX2_demandCable_15 dX2_demandCable_16 dX2_demandCable_18 dX2_demandCable_21 (Nat.le_of_ble_eq_true rfl) (Nat.le_of_ble_eq_true rfl) (Nat.le_of_ble_eq_true rfl) (Nat.le_of_ble_eq_true rfl) (Nat.le_of_ble_eq_true rfl) (Nat.le_of_ble_eq_true rfl) (by simp [erC, c_1]) rfl
  · -- on
    refine lv_iload_n hx hb dX2_demandCable_4 rfl (lv_at hl 1 rfl) ?_
    refine lv_aload_n hx hb dX2_demandCable_5 rfl (lv_at hl 0 rfl) ?_
    refine g_get (C := RX2) (T := TX2) (N := 9) (v := .int (nI cn)) hx hb hts hinX2 hown hS hP (id := 0) (by decide) rfl rfl 2 (by decide) hw_f20 (congrArg (fun z => some (Value.int z)) hO.c) dX2_demandCable_6 ?_
    refine lv_icmp_lt (tgt := 22) hx hb dX2_demandCable_9 (by decide) (fun c_2 => ?_) (fun c_2 => ?_)
    · -- taken
      refine g_mqx (by simp [erC, c_1, c_2]) ?_
      exact g_vret hx hb hr hlk hS hZ hP hV (Nat.le_of_ble_eq_true rfl) (Nat.le_of_ble_eq_true rfl) dX2_demandCable_22 (by rfl)
    · -- on
      exact g_throw (E := eX) (ik := 190) (is := 192) (ic := 194) (text := _) hx hb ht hlf hown (by decide +kernel) hw_k190 hw_i190 (List.mem_of_getElem? (i := 8) rfl) hat194 exc_ot_194 hlk hS hZ hP hV (hl.1.trans hml.symm) dX2_demandCable_12 dX2_demandCable_15 dX2_demandCable_16 dX2_demandCable_18 dX2_demandCable_21 (Nat.le_of_ble_eq_true rfl) (Nat.le_of_ble_eq_true rfl) (Nat.le_of_ble_eq_true rfl) (Nat.le_of_ble_eq_true rfl) (Nat.le_of_ble_eq_true rfl) (Nat.le_of_ble_eq_true rfl) (by simp [erC, c_1, c_2]) rfl
set_option maxHeartbeats 4000000 in
set_option maxRecDepth 100000 in
theorem c_X2_demandGround (l : Launch) (hlf : l.stackTraces = false) (x : Cx) (M : Nat → Nat → Int32) (cn gn dn : Nat) (pn : Nat → Nat) (a : Int32) (hO : OkO M cn gn dn pn) : vx_Met l yX2_demandGround wsX2_demandGround ({ frames := 6, cells := 1, slots := 6, locals := 90 }) (gP x M [.ref (xa x 0), .int a]) (gQx x (erC gn a) none M) (gX x (erC gn a) M) 1 6 (gF x) := by
  refine g_metx (cc := cX2_demandGround) (maxL := 2) (ret := none) (by decide) rfl (Nat.le_of_ble_eq_true rfl) ?_
  intro p e s m below meth c hx hb hr hml hts hown hlk ht hS hZ hP hV ls hl
  have hl : lv_has ls 2 [(0, .ref (xa x 0)), (1, .int a)] := hl
  have hw_k190 := hts (.classLink RX2 190 "java/lang/IndexOutOfBoundsException") (by decide +kernel)
  have hw_i190 := hts (.initialized "java/lang/IndexOutOfBoundsException") (by decide +kernel)
  have hat194 := exc_hat (ic := 194) (E := eX) hS (by decide +kernel) exc_h2_194 (fun w hw => hts w (List.mem_cons_of_mem _ (List.mem_append_right _ hw)))
  have hw_f41 := hts (.fieldLink RX2 41 "CableOffice" "groundCount" "I") (by decide +kernel)
  have hinX2 : ∀ w ∈ wsX20, w ∈ wsX2_demandGround := by decide +kernel
  have hc8 := hO.c8
  have hg5 := hO.g5
  have hd8 := hO.d8
  refine lv_iload_n hx hb dX2_demandGround_0 rfl (lv_at hl 1 rfl) ?_
  refine lv_if_lt (tgt := 12) hx hb dX2_demandGround_1 (by decide) (fun c_1 => ?_) (fun c_1 => ?_)
  · -- taken
    exact g_throw (E := eX) (ik := 190) (is := 205) (ic := 194) (text := _) hx hb ht hlf hown (by decide +kernel) hw_k190 hw_i190 (List.mem_of_getElem? (i := 11) rfl) hat194 exc_ot_194 hlk hS hZ hP hV (hl.1.trans hml.symm) dX2_demandGround_12 dX2_demandGround_15 dX2_demandGround_16 dX2_demandGround_18 dX2_demandGround_21 (Nat.le_of_ble_eq_true rfl) (Nat.le_of_ble_eq_true rfl) (Nat.le_of_ble_eq_true rfl) (Nat.le_of_ble_eq_true rfl) (Nat.le_of_ble_eq_true rfl) (Nat.le_of_ble_eq_true rfl) (by simp [erC, c_1]) rfl
  · -- on
    refine lv_iload_n hx hb dX2_demandGround_4 rfl (lv_at hl 1 rfl) ?_
    refine lv_aload_n hx hb dX2_demandGround_5 rfl (lv_at hl 0 rfl) ?_
    refine g_get (C := RX2) (T := TX2) (N := 9) (v := .int (nI gn)) hx hb hts hinX2 hown hS hP (id := 0) (by decide) rfl rfl 7 (by decide) hw_f41 (congrArg (fun z => some (Value.int z)) hO.g) dX2_demandGround_6 ?_
    refine lv_icmp_lt (tgt := 22) hx hb dX2_demandGround_9 (by decide) (fun c_2 => ?_) (fun c_2 => ?_)
    · -- taken
      refine g_mqx (by simp [erC, c_1, c_2]) ?_
      exact g_vret hx hb hr hlk hS hZ hP hV (Nat.le_of_ble_eq_true rfl) (Nat.le_of_ble_eq_true rfl) dX2_demandGround_22 (by rfl)
    · -- on
      exact g_throw (E := eX) (ik := 190) (is := 205) (ic := 194) (text := _) hx hb ht hlf hown (by decide +kernel) hw_k190 hw_i190 (List.mem_of_getElem? (i := 11) rfl) hat194 exc_ot_194 hlk hS hZ hP hV (hl.1.trans hml.symm) dX2_demandGround_12 dX2_demandGround_15 dX2_demandGround_16 dX2_demandGround_18 dX2_demandGround_21 (Nat.le_of_ble_eq_true rfl) (Nat.le_of_ble_eq_true rfl) (Nat.le_of_ble_eq_true rfl) (Nat.le_of_ble_eq_true rfl) (Nat.le_of_ble_eq_true rfl) (Nat.le_of_ble_eq_true rfl) (by simp [erC, c_1, c_2]) rfl
set_option maxHeartbeats 4000000 in
set_option maxRecDepth 100000 in
theorem c_X2_demandCables (l : Launch) (hlf : l.stackTraces = false) (x : Cx) (M : Nat → Nat → Int32) (cn gn dn : Nat) (pn : Nat → Nat) (a b : Int32) (hO : OkO M cn gn dn pn) : vx_Met l yX2_demandCables wsX2_demandCables ({ frames := 7, cells := 2, slots := 12, locals := 111 }) (gP x M [.ref (xa x 0), .int a, .int b]) (gQx x (erCC cn a b) none M) (gX x (erCC cn a b) M) 2 12 (gF x) := by
  refine g_metx (cc := cX2_demandCables) (maxL := 3) (ret := none) (by decide) rfl (Nat.le_of_ble_eq_true rfl) ?_
  intro p e s m below meth c hx hb hr hml hts hown hlk ht hS hZ hP hV ls hl
  have hl : lv_has ls 3 [(0, .ref (xa x 0)), (1, .int a), (2, .int b)] := hl
  have hc8 := hO.c8
  have hg5 := hO.g5
  have hd8 := hO.d8
  refine lv_aload_n hx hb dX2_demandCables_0 rfl (lv_at hl 0 rfl) ?_
  refine lv_iload_n hx hb dX2_demandCables_1 rfl (lv_at hl 1 rfl) ?_
  refine g_xcall0 (vx_runV (As := [.int a]) (rest := []) ⟨hx, hb, hml, hown, hts⟩ (c_X2_demandCable l hlf x M cn gn dn pn a hO) (cwV 1 hts gX2_demandCables_X2_demandCable rfl rfl rfl (by decide +kernel) ⟨Nat.le_of_ble_eq_true rfl, Nat.le_of_ble_eq_true rfl⟩) (g_preV hS hZ hP hV [.int a] (id := 0) (by decide) rfl rfl) rfl rfl hl.1 rfl (lv_room (Nat.le_of_ble_eq_true rfl)) dX2_demandCables_2 ⟨Nat.le_of_ble_eq_true rfl, Nat.le_of_ble_eq_true rfl⟩) hV (fun E ce q H locs hE hP hV h1 h2 h3 => g_xout ht hlk hS hZ (Nat.le_of_ble_eq_true rfl) (Nat.le_of_ble_eq_true rfl) (by simp [erCC, orE, hE, *]) rfl hP hV h1 h2 h3) (fun H locs x_1 hP hV => ?_)
  refine lv_aload_n hx hb dX2_demandCables_5 rfl (lv_at hl 0 rfl) ?_
  refine lv_iload_n hx hb dX2_demandCables_6 rfl (lv_at hl 2 rfl) ?_
  refine g_xcall0 (vx_runV (As := [.int b]) (rest := []) ⟨hx, hb, hml, hown, hts⟩ (c_X2_demandCable l hlf x M cn gn dn pn b hO) (cwV 1 hts gX2_demandCables_X2_demandCable rfl rfl rfl (by decide +kernel) ⟨Nat.le_of_ble_eq_true rfl, Nat.le_of_ble_eq_true rfl⟩) (g_preV hS hZ hP hV [.int b] (id := 0) (by decide) rfl rfl) rfl rfl hl.1 rfl (lv_room (Nat.le_of_ble_eq_true rfl)) dX2_demandCables_7 ⟨Nat.le_of_ble_eq_true rfl, Nat.le_of_ble_eq_true rfl⟩) hV (fun E ce q H locs hE hP hV h1 h2 h3 => g_xout ht hlk hS hZ (Nat.le_of_ble_eq_true rfl) (Nat.le_of_ble_eq_true rfl) (by simp [erCC, orE, hE, *]) rfl hP hV h1 h2 h3) (fun H locs x_2 hP hV => ?_)
  refine g_mqx (by simp [erCC, orE, x_1, x_2]) ?_
  exact g_vret hx hb hr hlk hS hZ hP hV (Nat.le_of_ble_eq_true rfl) (Nat.le_of_ble_eq_true rfl) dX2_demandCables_10 (by rfl)
set_option maxHeartbeats 4000000 in
set_option maxRecDepth 100000 in
theorem c_X2_demandPoint (l : Launch) (hlf : l.stackTraces = false) (x : Cx) (M : Nat → Nat → Int32) (cn gn dn : Nat) (pn : Nat → Nat) (a q : Int32) (hO : OkO M cn gn dn pn) : vx_Met l yX2_demandPoint wsX2_demandPoint ({ frames := 7, cells := 2, slots := 12, locals := 111 }) (gP x M [.ref (xa x 0), .int a, .int q]) (gQx x (erPt cn pn a q) none M) (gX x (erPt cn pn a q) M) 2 12 (gF x) := by
  refine g_metx (cc := cX2_demandPoint) (maxL := 3) (ret := none) (by decide) rfl (Nat.le_of_ble_eq_true rfl) ?_
  intro p e s m below meth c hx hb hr hml hts hown hlk ht hS hZ hP hV ls hl
  have hl : lv_has ls 3 [(0, .ref (xa x 0)), (1, .int a), (2, .int q)] := hl
  have hw_k190 := hts (.classLink RX2 190 "java/lang/IndexOutOfBoundsException") (by decide +kernel)
  have hw_i190 := hts (.initialized "java/lang/IndexOutOfBoundsException") (by decide +kernel)
  have hat194 := exc_hat (ic := 194) (E := eX) hS (by decide +kernel) exc_h2_194 (fun w hw => hts w (List.mem_cons_of_mem _ (List.mem_append_right _ hw)))
  have hw_f16 := hts (.fieldLink RX2 16 "CableOffice" "routes" "[LCableOffice$Route;") (by decide +kernel)
  have hinX2 : ∀ w ∈ wsX20, w ∈ wsX2_demandPoint := by decide +kernel
  have hinX1 : ∀ w ∈ wsX10, w ∈ wsX2_demandPoint := by decide +kernel
  have hc8 := hO.c8
  have hg5 := hO.g5
  have hd8 := hO.d8
  refine lv_aload_n hx hb dX2_demandPoint_0 rfl (lv_at hl 0 rfl) ?_
  refine lv_iload_n hx hb dX2_demandPoint_1 rfl (lv_at hl 1 rfl) ?_
  refine g_xcall0 (vx_runV (As := [.int a]) (rest := []) ⟨hx, hb, hml, hown, hts⟩ (c_X2_demandCable l hlf x M cn gn dn pn a hO) (cwV 1 hts gX2_demandPoint_X2_demandCable rfl rfl rfl (by decide +kernel) ⟨Nat.le_of_ble_eq_true rfl, Nat.le_of_ble_eq_true rfl⟩) (g_preV hS hZ hP hV [.int a] (id := 0) (by decide) rfl rfl) rfl rfl hl.1 rfl (lv_room (Nat.le_of_ble_eq_true rfl)) dX2_demandPoint_2 ⟨Nat.le_of_ble_eq_true rfl, Nat.le_of_ble_eq_true rfl⟩) hV (fun E ce q H locs hE hP hV h1 h2 h3 => g_xout ht hlk hS hZ (Nat.le_of_ble_eq_true rfl) (Nat.le_of_ble_eq_true rfl) (by simp [erPt, orE, hE]) rfl hP hV h1 h2 h3) (fun H locs x_1 hP hV => ?_)
  obtain ⟨j, hj, ej⟩ := erC_none hO.c8 x_1
  have h7j := hO.p7 hj
  rw [ej] at hl
  refine lv_iload_n hx hb dX2_demandPoint_5 rfl (lv_at hl 2 rfl) ?_
  refine lv_if_lt (tgt := 22) hx hb dX2_demandPoint_6 (by decide) (fun c_2 => ?_) (fun c_2 => ?_)
  · -- taken
    exact g_throw (E := eX) (ik := 190) (is := 198) (ic := 194) (text := _) hx hb ht hlf hown (by decide +kernel) hw_k190 hw_i190 (List.mem_of_getElem? (i := 9) rfl) hat194 exc_ot_194 hlk hS hZ hP hV (hl.1.trans hml.symm) dX2_demandPoint_22 dX2_demandPoint_25 dX2_demandPoint_26 dX2_demandPoint_28 dX2_demandPoint_31 (Nat.le_of_ble_eq_true rfl) (Nat.le_of_ble_eq_true rfl) (Nat.le_of_ble_eq_true rfl) (Nat.le_of_ble_eq_true rfl) (Nat.le_of_ble_eq_true rfl) (Nat.le_of_ble_eq_true rfl) (by subst ej; simp [erPt, orE, tn_nI (show j < 2 ^ 31 by omega), x_1, c_2]) rfl
  · -- on
    refine lv_iload_n hx hb dX2_demandPoint_9 rfl (lv_at hl 2 rfl) ?_
    refine lv_aload_n hx hb dX2_demandPoint_10 rfl (lv_at hl 0 rfl) ?_
    refine g_get (C := RX2) (T := TX2) (N := 9) (v := .ref (xa x 1)) hx hb hts hinX2 hown hS hP (id := 0) (by decide) rfl rfl 1 (by decide) hw_f16 rfl dX2_demandPoint_11 ?_
    refine lv_iload_n hx hb dX2_demandPoint_14 rfl (lv_at hl 1 rfl) ?_
    refine g_aaldR (j := j) hx hb hS hP rfl (by omega) dX2_demandPoint_15 ?_
    refine g_getN (C := RX1) (T := TX1) (N := 3) (host := RX2) (v := .int (nI (pn j + 1))) hx hb hts hinX1 hown hS hP (id := 11 + 3 * j) (by omega) (sh_r x _ (by omega)) rfl 2 (by decide) (by decide +kernel) (congrArg (fun z => some (Value.int z)) (hO.p (by omega))) dX2_demandPoint_16 ?_
    refine lv_icmp_lt (tgt := 32) hx hb dX2_demandPoint_19 (by decide) (fun c_3 => ?_) (fun c_3 => ?_)
    · -- taken
      refine g_mqx (by subst ej; simp [erPt, orE, tn_nI (show j < 2 ^ 31 by omega), x_1, c_2, c_3]) ?_
      exact g_vret hx hb hr hlk hS hZ hP hV (Nat.le_of_ble_eq_true rfl) (Nat.le_of_ble_eq_true rfl) dX2_demandPoint_32 (by rfl)
    · -- on
      exact g_throw (E := eX) (ik := 190) (is := 198) (ic := 194) (text := _) hx hb ht hlf hown (by decide +kernel) hw_k190 hw_i190 (List.mem_of_getElem? (i := 9) rfl) hat194 exc_ot_194 hlk hS hZ hP hV (hl.1.trans hml.symm) dX2_demandPoint_22 dX2_demandPoint_25 dX2_demandPoint_26 dX2_demandPoint_28 dX2_demandPoint_31 (Nat.le_of_ble_eq_true rfl) (Nat.le_of_ble_eq_true rfl) (Nat.le_of_ble_eq_true rfl) (Nat.le_of_ble_eq_true rfl) (Nat.le_of_ble_eq_true rfl) (Nat.le_of_ble_eq_true rfl) (by subst ej; simp [erPt, orE, tn_nI (show j < 2 ^ 31 by omega), x_1, c_2, c_3]) rfl
set_option maxHeartbeats 4000000 in
set_option maxRecDepth 100000 in
theorem c_X2_demandPiece (l : Launch) (hlf : l.stackTraces = false) (x : Cx) (M : Nat → Nat → Int32) (cn gn dn : Nat) (pn : Nat → Nat) (a q : Int32) (hO : OkO M cn gn dn pn) : vx_Met l yX2_demandPiece wsX2_demandPiece ({ frames := 7, cells := 2, slots := 12, locals := 111 }) (gP x M [.ref (xa x 0), .int a, .int q]) (gQx x (erPc cn pn a q) none M) (gX x (erPc cn pn a q) M) 2 12 (gF x) := by
  refine g_metx (cc := cX2_demandPiece) (maxL := 3) (ret := none) (by decide) rfl (Nat.le_of_ble_eq_true rfl) ?_
  intro p e s m below meth c hx hb hr hml hts hown hlk ht hS hZ hP hV ls hl
  have hl : lv_has ls 3 [(0, .ref (xa x 0)), (1, .int a), (2, .int q)] := hl
  have hw_k190 := hts (.classLink RX2 190 "java/lang/IndexOutOfBoundsException") (by decide +kernel)
  have hw_i190 := hts (.initialized "java/lang/IndexOutOfBoundsException") (by decide +kernel)
  have hat194 := exc_hat (ic := 194) (E := eX) hS (by decide +kernel) exc_h2_194 (fun w hw => hts w (List.mem_cons_of_mem _ (List.mem_append_right _ hw)))
  have hw_f16 := hts (.fieldLink RX2 16 "CableOffice" "routes" "[LCableOffice$Route;") (by decide +kernel)
  have hinX2 : ∀ w ∈ wsX20, w ∈ wsX2_demandPiece := by decide +kernel
  have hw_iX1 := hts (.initialized RX1) (by decide +kernel)
  have hw_imX1_pieces := hts (.instanceMethod yX1_pieces) (by decide +kernel)
  have hw_seX1_pieces := hts (.selects RX1 yX1_pieces yX1_pieces) (by decide +kernel)
  have hc8 := hO.c8
  have hg5 := hO.g5
  have hd8 := hO.d8
  refine lv_aload_n hx hb dX2_demandPiece_0 rfl (lv_at hl 0 rfl) ?_
  refine lv_iload_n hx hb dX2_demandPiece_1 rfl (lv_at hl 1 rfl) ?_
  refine g_xcall0 (vx_runV (As := [.int a]) (rest := []) ⟨hx, hb, hml, hown, hts⟩ (c_X2_demandCable l hlf x M cn gn dn pn a hO) (cwV 1 hts gX2_demandPiece_X2_demandCable rfl rfl rfl (by decide +kernel) ⟨Nat.le_of_ble_eq_true rfl, Nat.le_of_ble_eq_true rfl⟩) (g_preV hS hZ hP hV [.int a] (id := 0) (by decide) rfl rfl) rfl rfl hl.1 rfl (lv_room (Nat.le_of_ble_eq_true rfl)) dX2_demandPiece_2 ⟨Nat.le_of_ble_eq_true rfl, Nat.le_of_ble_eq_true rfl⟩) hV (fun E ce q H locs hE hP hV h1 h2 h3 => g_xout ht hlk hS hZ (Nat.le_of_ble_eq_true rfl) (Nat.le_of_ble_eq_true rfl) (by simp [erPc, orE, hE]) rfl hP hV h1 h2 h3) (fun H locs x_1 hP hV => ?_)
  obtain ⟨j, hj, ej⟩ := erC_none hO.c8 x_1
  have h7j := hO.p7 hj
  rw [ej] at hl
  refine lv_iload_n hx hb dX2_demandPiece_5 rfl (lv_at hl 2 rfl) ?_
  refine lv_if_lt (tgt := 22) hx hb dX2_demandPiece_6 (by decide) (fun c_2 => ?_) (fun c_2 => ?_)
  · -- taken
    exact g_throw (E := eX) (ik := 190) (is := 203) (ic := 194) (text := _) hx hb ht hlf hown (by decide +kernel) hw_k190 hw_i190 (List.mem_of_getElem? (i := 10) rfl) hat194 exc_ot_194 hlk hS hZ hP hV (hl.1.trans hml.symm) dX2_demandPiece_22 dX2_demandPiece_25 dX2_demandPiece_26 dX2_demandPiece_28 dX2_demandPiece_31 (Nat.le_of_ble_eq_true rfl) (Nat.le_of_ble_eq_true rfl) (Nat.le_of_ble_eq_true rfl) (Nat.le_of_ble_eq_true rfl) (Nat.le_of_ble_eq_true rfl) (Nat.le_of_ble_eq_true rfl) (by subst ej; simp [erPc, orE, tn_nI (show j < 2 ^ 31 by omega), x_1, c_2]) rfl
  · -- on
    refine lv_iload_n hx hb dX2_demandPiece_9 rfl (lv_at hl 2 rfl) ?_
    refine lv_aload_n hx hb dX2_demandPiece_10 rfl (lv_at hl 0 rfl) ?_
    refine g_get (C := RX2) (T := TX2) (N := 9) (v := .ref (xa x 1)) hx hb hts hinX2 hown hS hP (id := 0) (by decide) rfl rfl 1 (by decide) hw_f16 rfl dX2_demandPiece_11 ?_
    refine lv_iload_n hx hb dX2_demandPiece_14 rfl (lv_at hl 1 rfl) ?_
    refine g_aaldR (j := j) hx hb hS hP rfl (by omega) dX2_demandPiece_15 ?_
    refine g_call1 (va_runVN (As := []) (rest := [.int q]) ⟨hx, hb, hml, hown, hts⟩ (c_X1_pieces l x M j (pn j) (by omega) (hO.p (by omega))) ⟨va_cnB (host := RX2) 0 hts gX2_demandPiece_X1_pieces_n200 rfl rfl rfl (hS.2.2.2.2.1 _ (by decide +kernel)) hw_iX1 (by decide +kernel) ⟨Nat.le_of_ble_eq_true rfl, Nat.le_of_ble_eq_true rfl⟩, hw_imX1_pieces, hw_seX1_pieces⟩ (g_preV hS hZ hP hV [] (id := 11 + 3 * j) (by omega) (sh_r x _ (by omega)) rfl) rfl rfl hl.1 rfl (lv_room (Nat.le_of_ble_eq_true rfl)) dX2_demandPiece_16 ⟨Nat.le_of_ble_eq_true rfl, Nat.le_of_ble_eq_true rfl⟩) hV (fun H locs hP hV => ?_)
    refine lv_icmp_lt (tgt := 32) hx hb dX2_demandPiece_19 (by decide) (fun c_3 => ?_) (fun c_3 => ?_)
    · -- taken
      refine g_mqx (by subst ej; simp [erPc, orE, tn_nI (show j < 2 ^ 31 by omega), x_1, c_2, c_3]) ?_
      exact g_vret hx hb hr hlk hS hZ hP hV (Nat.le_of_ble_eq_true rfl) (Nat.le_of_ble_eq_true rfl) dX2_demandPiece_32 (by rfl)
    · -- on
      exact g_throw (E := eX) (ik := 190) (is := 203) (ic := 194) (text := _) hx hb ht hlf hown (by decide +kernel) hw_k190 hw_i190 (List.mem_of_getElem? (i := 10) rfl) hat194 exc_ot_194 hlk hS hZ hP hV (hl.1.trans hml.symm) dX2_demandPiece_22 dX2_demandPiece_25 dX2_demandPiece_26 dX2_demandPiece_28 dX2_demandPiece_31 (Nat.le_of_ble_eq_true rfl) (Nat.le_of_ble_eq_true rfl) (Nat.le_of_ble_eq_true rfl) (Nat.le_of_ble_eq_true rfl) (Nat.le_of_ble_eq_true rfl) (Nat.le_of_ble_eq_true rfl) (by subst ej; simp [erPc, orE, tn_nI (show j < 2 ^ 31 by omega), x_1, c_2, c_3]) rfl
set_option maxHeartbeats 4000000 in
set_option maxRecDepth 100000 in
theorem c_X2_crossWell (l : Launch) (x : Cx) (M : Nat → Nat → Int32) (a b : Nat) (ha : a < 8) (hb8 : b < 8) : Met l yX2_crossWell wsX2_crossWell ({ frames := 2, cells := 0, slots := 0, locals := 42 }) (gP x M [.ref (xa x 0), .int (nI a), .int (nI b)]) (gQ x (some (.int (bI (weO M a b)))) M) 0 0 (gF x) := by
  refine g_met (cc := cX2_crossWell) (maxL := 4) (ret := some .boolean) (by decide) rfl (Nat.le_of_ble_eq_true rfl) ?_
  intro p e s m below meth c hx hb hr hml hts hown hlk hS hZ hP hV ls hl
  have hl : lv_has ls 4 [(0, .ref (xa x 0)), (1, .int (nI a)), (2, .int (nI b))] := hl
  have hw_f24 := hts (.fieldLink RX2 24 "CableOffice" "crossed" "[I") (by decide +kernel)
  have hinX2 : ∀ w ∈ wsX20, w ∈ wsX2_crossWell := by decide +kernel
  have hw_f28 := hts (.fieldLink RX2 28 "CableOffice" "crossedSteeply" "[I") (by decide +kernel)
  have hp64 := pr_lt ha hb8
  refine lv_iload_n hx hb dX2_crossWell_0 rfl (lv_at hl 1 rfl) ?_
  refine lv_iload_n hx hb dX2_crossWell_1 rfl (lv_at hl 2 rfl) ?_
  refine g_call1 (va_runS (As := [.int (nI a), .int (nI b)]) (rest := []) ⟨hx, hb, hml, hown, hts⟩ (c_X2_pairOf l x M a b (by omega) (by omega)) (va_cwS 2 hts gX2_crossWell_X2_pairOf rfl rfl rfl (by decide +kernel) ⟨Nat.le_of_ble_eq_true rfl, Nat.le_of_ble_eq_true rfl⟩) (g_preS hS hZ hP hV [.int (nI a), .int (nI b)]) rfl rfl hl.1 rfl (lv_room (Nat.le_of_ble_eq_true rfl)) dX2_crossWell_2 ⟨Nat.le_of_ble_eq_true rfl, Nat.le_of_ble_eq_true rfl⟩) hV (fun H locs hP hV => ?_)
  refine lv_istore_n (lv' := [(3, .int (nI (pr a b))), (0, .ref (xa x 0)), (1, .int (nI a)), (2, .int (nI b))]) hx hb dX2_crossWell_5 rfl hl (by decide) rfl (fun ls hl => ?_)
  refine lv_aload_n hx hb dX2_crossWell_6 rfl (lv_at hl 1 rfl) ?_
  refine g_get (C := RX2) (T := TX2) (N := 9) (v := .ref (xa x 2)) hx hb hts hinX2 hown hS hP (id := 0) (by decide) rfl rfl 3 (by decide) hw_f24 rfl dX2_crossWell_7 ?_
  refine lv_iload_n hx hb dX2_crossWell_10 rfl (lv_at hl 0 rfl) ?_
  refine g_iald (j := pr a b) hx hb hS hP (id := 2) (by omega) ((fun _ => rfl) _) (by decide) rfl (by omega) dX2_crossWell_11 ?_
  refine lv_if_le (tgt := 34) hx hb dX2_crossWell_12 (by decide) (fun c_1 => ?_) (fun c_1 => ?_)
  · -- taken
    refine lv_iconst (v := 0) hx hb dX2_crossWell_34 (by decide) ?_
    exact g_zret hx hb hr hlk hS hZ hP hV (Nat.le_of_ble_eq_true rfl) (Nat.le_of_ble_eq_true rfl) dX2_crossWell_35 (by decide) (by simp [weO, bI, c_1]) (by rfl)
  · -- on
    refine lv_aload_n hx hb dX2_crossWell_15 rfl (lv_at hl 1 rfl) ?_
    refine g_get (C := RX2) (T := TX2) (N := 9) (v := .ref (xa x 3)) hx hb hts hinX2 hown hS hP (id := 0) (by decide) rfl rfl 4 (by decide) hw_f28 rfl dX2_crossWell_16 ?_
    refine lv_iload_n hx hb dX2_crossWell_19 rfl (lv_at hl 0 rfl) ?_
    refine g_iald (j := pr a b) hx hb hS hP (id := 3) (by omega) ((fun _ => rfl) _) (by decide) rfl (by omega) dX2_crossWell_20 ?_
    refine lv_aload_n hx hb dX2_crossWell_21 rfl (lv_at hl 1 rfl) ?_
    refine g_get (C := RX2) (T := TX2) (N := 9) (v := .ref (xa x 2)) hx hb hts hinX2 hown hS hP (id := 0) (by decide) rfl rfl 3 (by decide) hw_f24 rfl dX2_crossWell_22 ?_
    refine lv_iload_n hx hb dX2_crossWell_25 rfl (lv_at hl 0 rfl) ?_
    refine g_iald (j := pr a b) hx hb hS hP (id := 2) (by omega) ((fun _ => rfl) _) (by decide) rfl (by omega) dX2_crossWell_26 ?_
    refine lv_icmp_ne (tgt := 34) hx hb dX2_crossWell_27 (by decide) (fun c_2 => ?_) (fun c_2 => ?_)
    · -- taken
      refine lv_iconst (v := 0) hx hb dX2_crossWell_34 (by decide) ?_
      exact g_zret hx hb hr hlk hS hZ hP hV (Nat.le_of_ble_eq_true rfl) (Nat.le_of_ble_eq_true rfl) dX2_crossWell_35 (by decide) (by simp [weO, bI, c_1, c_2]) (by rfl)
    · -- on
      refine lv_iconst (v := 1) hx hb dX2_crossWell_30 (by decide) ?_
      refine lv_goto (tgt := 35) hx hb dX2_crossWell_31 (by decide) ?_
      exact g_zret hx hb hr hlk hS hZ hP hV (Nat.le_of_ble_eq_true rfl) (Nat.le_of_ble_eq_true rfl) dX2_crossWell_35 (by decide) (by simp [weO, bI, c_1, c_2]) (by rfl)
set_option maxHeartbeats 4000000 in
set_option maxRecDepth 100000 in
theorem c_X2_dropIfNotWell (l : Launch) (x : Cx) (M : Nat → Nat → Int32) (a b : Nat) (ha : a < 8) (hb8 : b < 8) : Met l yX2_dropIfNotWell wsX2_dropIfNotWell ({ frames := 3, cells := 0, slots := 0, locals := 65 }) (gP x M [.ref (xa x 0), .int (nI a), .int (nI b)]) (gQ x (some (.int (if drO M a b = true then 1 else 0))) (if drO M a b = true then up2 M 4 (pr a b) 0 else M)) 0 0 (gF x) := by
  refine g_met (cc := cX2_dropIfNotWell) (maxL := 4) (ret := some .int) (by decide) rfl (Nat.le_of_ble_eq_true rfl) ?_
  intro p e s m below meth c hx hb hr hml hts hown hlk hS hZ hP hV ls hl
  have hl : lv_has ls 4 [(0, .ref (xa x 0)), (1, .int (nI a)), (2, .int (nI b))] := hl
  have hw_f31 := hts (.fieldLink RX2 31 "CableOffice" "agreed" "[Z") (by decide +kernel)
  have hinX2 : ∀ w ∈ wsX20, w ∈ wsX2_dropIfNotWell := by decide +kernel
  have hp64 := pr_lt ha hb8
  refine lv_iload_n hx hb dX2_dropIfNotWell_0 rfl (lv_at hl 1 rfl) ?_
  refine lv_iload_n hx hb dX2_dropIfNotWell_1 rfl (lv_at hl 2 rfl) ?_
  refine g_call1 (va_runS (As := [.int (nI a), .int (nI b)]) (rest := []) ⟨hx, hb, hml, hown, hts⟩ (c_X2_pairOf l x M a b (by omega) (by omega)) (va_cwS 2 hts gX2_dropIfNotWell_X2_pairOf rfl rfl rfl (by decide +kernel) ⟨Nat.le_of_ble_eq_true rfl, Nat.le_of_ble_eq_true rfl⟩) (g_preS hS hZ hP hV [.int (nI a), .int (nI b)]) rfl rfl hl.1 rfl (lv_room (Nat.le_of_ble_eq_true rfl)) dX2_dropIfNotWell_2 ⟨Nat.le_of_ble_eq_true rfl, Nat.le_of_ble_eq_true rfl⟩) hV (fun H locs hP hV => ?_)
  refine lv_istore_n (lv' := [(3, .int (nI (pr a b))), (0, .ref (xa x 0)), (1, .int (nI a)), (2, .int (nI b))]) hx hb dX2_dropIfNotWell_5 rfl hl (by decide) rfl (fun ls hl => ?_)
  refine lv_aload_n hx hb dX2_dropIfNotWell_6 rfl (lv_at hl 1 rfl) ?_
  refine g_get (C := RX2) (T := TX2) (N := 9) (v := .ref (xa x 4)) hx hb hts hinX2 hown hS hP (id := 0) (by decide) rfl rfl 5 (by decide) hw_f31 rfl dX2_dropIfNotWell_7 ?_
  refine lv_iload_n hx hb dX2_dropIfNotWell_10 rfl (lv_at hl 0 rfl) ?_
  refine g_zald (j := pr a b) hx hb hS hP (id := 4) (by omega) ((fun _ => rfl) _) (by decide) rfl (by omega) dX2_dropIfNotWell_11 ?_
  refine lv_if_eq (tgt := 24) hx hb dX2_dropIfNotWell_12 (by decide) (fun c_1 => ?_) (fun c_1 => ?_)
  · -- taken
    refine lv_iconst (v := 0) hx hb dX2_dropIfNotWell_24 (by decide) ?_
    exact g_iret hx hb hr hlk hS hZ hP hV (Nat.le_of_ble_eq_true rfl) (Nat.le_of_ble_eq_true rfl) dX2_dropIfNotWell_25 (by simp [drO, c_1]) (by simp [drO, c_1])
  · -- on
    refine lv_aload_n hx hb dX2_dropIfNotWell_15 rfl (lv_at hl 1 rfl) ?_
    refine lv_iload_n hx hb dX2_dropIfNotWell_16 rfl (lv_at hl 2 rfl) ?_
    refine lv_iload_n hx hb dX2_dropIfNotWell_17 rfl (lv_at hl 3 rfl) ?_
    refine g_call1 (va_runV (As := [.int (nI a), .int (nI b)]) (rest := []) ⟨hx, hb, hml, hown, hts⟩ (c_X2_crossWell l x M a b (by omega) (by omega)) (cwV 2 hts gX2_dropIfNotWell_X2_crossWell rfl rfl rfl (by decide +kernel) ⟨Nat.le_of_ble_eq_true rfl, Nat.le_of_ble_eq_true rfl⟩) (g_preV hS hZ hP hV [.int (nI a), .int (nI b)] (id := 0) (by decide) rfl rfl) rfl rfl hl.1 rfl (lv_room (Nat.le_of_ble_eq_true rfl)) dX2_dropIfNotWell_18 ⟨Nat.le_of_ble_eq_true rfl, Nat.le_of_ble_eq_true rfl⟩) hV (fun H locs hP hV => ?_)
    refine h_if_eq_b (tgt := 26) hx hb dX2_dropIfNotWell_21 (by decide) (fun c_2 => ?_) (fun c_2 => ?_)
    · -- taken
      refine lv_aload_n hx hb dX2_dropIfNotWell_26 rfl (lv_at hl 1 rfl) ?_
      refine g_get (C := RX2) (T := TX2) (N := 9) (v := .ref (xa x 4)) hx hb hts hinX2 hown hS hP (id := 0) (by decide) rfl rfl 5 (by decide) hw_f31 rfl dX2_dropIfNotWell_27 ?_
      refine lv_iload_n hx hb dX2_dropIfNotWell_30 rfl (lv_at hl 0 rfl) ?_
      refine lv_iconst (v := 0) hx hb dX2_dropIfNotWell_31 (by decide) ?_
      refine g_zast (j := pr a b) hx hb hS hP hV (id := 4) (by omega) (fun _ => rfl) (by decide) rfl (by omega) (by decide) dX2_dropIfNotWell_32 (fun H locs hP hV => ?_)
      refine lv_iconst (v := 1) hx hb dX2_dropIfNotWell_33 (by decide) ?_
      exact g_iret hx hb hr hlk hS hZ hP hV (Nat.le_of_ble_eq_true rfl) (Nat.le_of_ble_eq_true rfl) dX2_dropIfNotWell_34 (by simp [drO, c_1, c_2]) (by simp [drO, c_1, c_2])
    · -- on
      refine lv_iconst (v := 0) hx hb dX2_dropIfNotWell_24 (by decide) ?_
      exact g_iret hx hb hr hlk hS hZ hP hV (Nat.le_of_ble_eq_true rfl) (Nat.le_of_ble_eq_true rfl) dX2_dropIfNotWell_25 (by simp [drO, c_1, c_2]) (by simp [drO, c_1, c_2])
set_option maxHeartbeats 4000000 in
set_option maxRecDepth 100000 in
theorem c_X2_countCrossings (l : Launch) (x : Cx) (M : Nat → Nat → Int32) (i j n u : Nat) (bb : Bool) (hi : i < 9) (hj : j < 9) (hn : M (11 + 3 * i) 2 = nI (n + 1)) (hu : M (11 + 3 * j) 2 = nI (u + 1)) (hn7 : n ≤ 7) (hu7 : u ≤ 7) : Met l yX2_countCrossings wsX2_countCrossings ({ frames := 4, cells := 0, slots := 0, locals := 92 }) (gP x M [.ref (xa x (11 + 3 * i)), .ref (xa x (11 + 3 * j)), .int (bI bb)]) (gQ x (some (.int (nI (cnt2 (fX bb (M (11 + 3 * i + 1)) (M (11 + 3 * i + 2)) (M (11 + 3 * j + 1)) (M (11 + 3 * j + 2))) u n)))) M) 0 0 (gF x) := by
  refine g_met (cc := cX2_countCrossings) (maxL := 6) (ret := some .int) (by decide) rfl (Nat.le_of_ble_eq_true rfl) ?_
  intro p e s m below meth c hx hb hr hml hts hown hlk hS hZ hP hV ls hl
  have hl : lv_has ls 6 [(0, .ref (xa x (11 + 3 * i))), (1, .ref (xa x (11 + 3 * j))), (2, .int (bI bb))] := hl
  have hw_iX1 := hts (.initialized RX1) (by decide +kernel)
  have hw_imX1_pieces := hts (.instanceMethod yX1_pieces) (by decide +kernel)
  have hw_seX1_pieces := hts (.selects RX1 yX1_pieces yX1_pieces) (by decide +kernel)
  have hw_imX1_pieceCrosses := hts (.instanceMethod yX1_pieceCrosses) (by decide +kernel)
  have hw_seX1_pieceCrosses := hts (.selects RX1 yX1_pieceCrosses yX1_pieceCrosses) (by decide +kernel)
  have hw_imX1_pieceIsSteepTo := hts (.instanceMethod yX1_pieceIsSteepTo) (by decide +kernel)
  have hw_seX1_pieceIsSteepTo := hts (.selects RX1 yX1_pieceIsSteepTo yX1_pieceIsSteepTo) (by decide +kernel)
  refine lv_iconst (v := 0) hx hb dX2_countCrossings_0 (by decide) ?_
  refine lv_istore_n (lv' := [(3, .int 0), (0, .ref (xa x (11 + 3 * i))), (1, .ref (xa x (11 + 3 * j))), (2, .int (bI bb))]) hx hb dX2_countCrossings_1 rfl hl (by decide) rfl (fun ls hl => ?_)
  refine lv_iconst (v := 0) hx hb dX2_countCrossings_2 (by decide) ?_
  refine lv_istore (lv' := [(4, .int 0), (3, .int 0), (0, .ref (xa x (11 + 3 * i))), (1, .ref (xa x (11 + 3 * j))), (2, .int (bI bb))]) hx hb dX2_countCrossings_3 hl (by decide) rfl (fun ls hl => ?_)
  have lp_5 : ∀ (nn k : Nat), n - k < nn → k ≤ n → ∀ (H : Heap) (locs : List Loc), va_P (xD x) vwCl (wAll x M) H → va_S (gF x) s.heap H locs → ∀ ls : Array Slot, lv_has ls 6 [(4, .int (nI k)), (3, .int (nI (cnt2 (fX bb (M (11 + 3 * i + 1)) (M (11 + 3 * i + 2)) (M (11 + 3 * j + 1)) (M (11 + 3 * j + 2))) u k))), (0, .ref (xa x (11 + 3 * i))), (1, .ref (xa x (11 + 3 * j))), (2, .int (bI bb))] → W p l e ({ frames := 4, cells := 0, slots := 0, locals := 92 }) s m ([.ref (xa x (11 + 3 * i)), .ref (xa x (11 + 3 * j)), .int (bI bb)] : List Value).toArray below meth c H locs 0 0 (MQ below (gQ x (some (.int (nI (cnt2 (fX bb (M (11 + 3 * i + 1)) (M (11 + 3 * i + 2)) (M (11 + 3 * j + 1)) (M (11 + 3 * j + 2))) u n)))) M) ([.ref (xa x (11 + 3 * i)), .ref (xa x (11 + 3 * j)), .int (bI bb)] : List Value).toArray s 0 0 (gF x)) (F0 m 5 ls []) := by
    intro nn
    induction nn with
    | zero => intro k hz; exact absurd hz (Nat.not_lt_zero _)
    | succ nn ih_5 =>
      intro k hf_5 hk_5  H locs hP hV ls hl
      refine lv_iload hx hb dX2_countCrossings_5 (lv_at hl 0 rfl) ?_
      refine lv_aload_n hx hb dX2_countCrossings_7 rfl (lv_at hl 2 rfl) ?_
      refine g_call1 (va_runVN (As := []) (rest := [.int (nI k)]) ⟨hx, hb, hml, hown, hts⟩ (c_X1_pieces l x M i n (by omega) hn) ⟨va_cnB (host := RX2) 0 hts gX2_countCrossings_X1_pieces_n200 rfl rfl rfl (hS.2.2.2.2.1 _ (by decide +kernel)) hw_iX1 (by decide +kernel) ⟨Nat.le_of_ble_eq_true rfl, Nat.le_of_ble_eq_true rfl⟩, hw_imX1_pieces, hw_seX1_pieces⟩ (g_preV hS hZ hP hV [] (id := 11 + 3 * i) (by omega) (sh_r x _ (by omega)) rfl) rfl rfl hl.1 rfl (lv_room (Nat.le_of_ble_eq_true rfl)) dX2_countCrossings_8 ⟨Nat.le_of_ble_eq_true rfl, Nat.le_of_ble_eq_true rfl⟩) hV (fun H locs hP hV => ?_)
      refine h_icmp_ge_n (a := k) (b := n) (tgt := 69) hx hb (by omega) (by omega) dX2_countCrossings_11 (by decide) (fun c_1 => ?_) (fun c_1 => ?_)
      · -- taken
        refine lv_iload_n hx hb dX2_countCrossings_69 rfl (lv_at hl 1 rfl) ?_
        exact g_iret hx hb hr hlk hS hZ hP hV (Nat.le_of_ble_eq_true rfl) (Nat.le_of_ble_eq_true rfl) dX2_countCrossings_70 (by rw [show k = n by omega]) (by rfl)
      · -- on
        refine lv_iconst (v := 0) hx hb dX2_countCrossings_14 (by decide) ?_
        refine lv_istore (lv' := [(5, .int 0), (4, .int (nI k)), (3, .int (nI (cnt2 (fX bb (M (11 + 3 * i + 1)) (M (11 + 3 * i + 2)) (M (11 + 3 * j + 1)) (M (11 + 3 * j + 2))) u k))), (0, .ref (xa x (11 + 3 * i))), (1, .ref (xa x (11 + 3 * j))), (2, .int (bI bb))]) hx hb dX2_countCrossings_15 hl (by decide) rfl (fun ls hl => ?_)
        have lp_17 : ∀ (nn t : Nat), u - t < nn → t ≤ u → ∀ (H : Heap) (locs : List Loc), va_P (xD x) vwCl (wAll x M) H → va_S (gF x) s.heap H locs → ∀ ls : Array Slot, lv_has ls 6 [(5, .int (nI t)), (4, .int (nI k)), (3, .int (nI (cnt2 (fX bb (M (11 + 3 * i + 1)) (M (11 + 3 * i + 2)) (M (11 + 3 * j + 1)) (M (11 + 3 * j + 2))) u k + cntB ((fX bb (M (11 + 3 * i + 1)) (M (11 + 3 * i + 2)) (M (11 + 3 * j + 1)) (M (11 + 3 * j + 2))) k) t))), (0, .ref (xa x (11 + 3 * i))), (1, .ref (xa x (11 + 3 * j))), (2, .int (bI bb))] → W p l e ({ frames := 4, cells := 0, slots := 0, locals := 92 }) s m ([.ref (xa x (11 + 3 * i)), .ref (xa x (11 + 3 * j)), .int (bI bb)] : List Value).toArray below meth c H locs 0 0 (MQ below (gQ x (some (.int (nI (cnt2 (fX bb (M (11 + 3 * i + 1)) (M (11 + 3 * i + 2)) (M (11 + 3 * j + 1)) (M (11 + 3 * j + 2))) u n)))) M) ([.ref (xa x (11 + 3 * i)), .ref (xa x (11 + 3 * j)), .int (bI bb)] : List Value).toArray s 0 0 (gF x)) (F0 m 17 ls []) := by
          intro nn
          induction nn with
          | zero => intro t hz; exact absurd hz (Nat.not_lt_zero _)
          | succ nn ih_17 =>
            intro t hf_17 hk_17  H locs hP hV ls hl
            refine lv_iload hx hb dX2_countCrossings_17 (lv_at hl 0 rfl) ?_
            refine lv_aload_n hx hb dX2_countCrossings_19 rfl (lv_at hl 4 rfl) ?_
            refine g_call1 (va_runVN (As := []) (rest := [.int (nI t)]) ⟨hx, hb, hml, hown, hts⟩ (c_X1_pieces l x M j u (by omega) hu) ⟨va_cnB (host := RX2) 0 hts gX2_countCrossings_X1_pieces_n200 rfl rfl rfl (hS.2.2.2.2.1 _ (by decide +kernel)) hw_iX1 (by decide +kernel) ⟨Nat.le_of_ble_eq_true rfl, Nat.le_of_ble_eq_true rfl⟩, hw_imX1_pieces, hw_seX1_pieces⟩ (g_preV hS hZ hP hV [] (id := 11 + 3 * j) (by omega) (sh_r x _ (by omega)) rfl) rfl rfl hl.1 rfl (lv_room (Nat.le_of_ble_eq_true rfl)) dX2_countCrossings_20 ⟨Nat.le_of_ble_eq_true rfl, Nat.le_of_ble_eq_true rfl⟩) hV (fun H locs hP hV => ?_)
            refine h_icmp_ge_n (a := t) (b := u) (tgt := 63) hx hb (by omega) (by omega) dX2_countCrossings_23 (by decide) (fun c_2 => ?_) (fun c_2 => ?_)
            · -- taken
              refine lv_iinc (v := nI (k + 1)) (lv' := [(4, .int (nI (k + 1))), (5, .int (nI t)), (3, .int (nI (cnt2 (fX bb (M (11 + 3 * i + 1)) (M (11 + 3 * i + 2)) (M (11 + 3 * j + 1)) (M (11 + 3 * j + 2))) u k + cntB ((fX bb (M (11 + 3 * i + 1)) (M (11 + 3 * i + 2)) (M (11 + 3 * j + 1)) (M (11 + 3 * j + 2))) k) t))), (0, .ref (xa x (11 + 3 * i))), (1, .ref (xa x (11 + 3 * j))), (2, .int (bI bb))]) hx hb dX2_countCrossings_63 hl (k := 1) rfl (nI_add (k) 1) (by decide) rfl (fun ls hl => ?_)
              refine lv_goto (tgt := 5) hx hb dX2_countCrossings_66 (by decide) ?_
              exact ih_5 (k + 1) (by omega) (by omega)  _ _ hP hV ls (lv_sub hl [0, 2, 3, 4, 5] (show ([(4, .int (nI (k + 1))), (3, .int (nI (cnt2 (fX bb (M (11 + 3 * i + 1)) (M (11 + 3 * i + 2)) (M (11 + 3 * j + 1)) (M (11 + 3 * j + 2))) u k + cntB ((fX bb (M (11 + 3 * i + 1)) (M (11 + 3 * i + 2)) (M (11 + 3 * j + 1)) (M (11 + 3 * j + 2))) k) t))), (0, .ref (xa x (11 + 3 * i))), (1, .ref (xa x (11 + 3 * j))), (2, .int (bI bb))] : List (Nat × Value)) = [(4, .int (nI (k + 1))), (3, .int (nI (cnt2 (fX bb (M (11 + 3 * i + 1)) (M (11 + 3 * i + 2)) (M (11 + 3 * j + 1)) (M (11 + 3 * j + 2))) u (k + 1)))), (0, .ref (xa x (11 + 3 * i))), (1, .ref (xa x (11 + 3 * j))), (2, .int (bI bb))] from by simp [cnt2, show t = u by omega]))
            · -- on
              refine lv_aload_n hx hb dX2_countCrossings_26 rfl (lv_at hl 3 rfl) ?_
              refine lv_iload hx hb dX2_countCrossings_27 (lv_at hl 1 rfl) ?_
              refine lv_aload_n hx hb dX2_countCrossings_29 rfl (lv_at hl 4 rfl) ?_
              refine lv_iload hx hb dX2_countCrossings_30 (lv_at hl 0 rfl) ?_
              refine g_call1 (va_runVN (As := [.int (nI k), .ref (xa x (11 + 3 * j)), .int (nI t)]) (rest := []) ⟨hx, hb, hml, hown, hts⟩ (c_X1_pieceCrosses l x M i k j t (by omega) (by omega) (by omega) (by omega)) ⟨va_cnB (host := RX2) 3 hts gX2_countCrossings_X1_pieceCrosses_n215 rfl rfl rfl (hS.2.2.2.2.1 _ (by decide +kernel)) hw_iX1 (by decide +kernel) ⟨Nat.le_of_ble_eq_true rfl, Nat.le_of_ble_eq_true rfl⟩, hw_imX1_pieceCrosses, hw_seX1_pieceCrosses⟩ (g_preV hS hZ hP hV [.int (nI k), .ref (xa x (11 + 3 * j)), .int (nI t)] (id := 11 + 3 * i) (by omega) (sh_r x _ (by omega)) rfl) rfl rfl hl.1 rfl (lv_room (Nat.le_of_ble_eq_true rfl)) dX2_countCrossings_32 ⟨Nat.le_of_ble_eq_true rfl, Nat.le_of_ble_eq_true rfl⟩) hV (fun H locs hP hV => ?_)
              refine h_if_eq_b (tgt := 57) hx hb dX2_countCrossings_35 (by decide) (fun c_3 => ?_) (fun c_3 => ?_)
              · -- taken
                refine lv_iinc (v := nI (t + 1)) (lv' := [(5, .int (nI (t + 1))), (4, .int (nI k)), (3, .int (nI (cnt2 (fX bb (M (11 + 3 * i + 1)) (M (11 + 3 * i + 2)) (M (11 + 3 * j + 1)) (M (11 + 3 * j + 2))) u k + cntB ((fX bb (M (11 + 3 * i + 1)) (M (11 + 3 * i + 2)) (M (11 + 3 * j + 1)) (M (11 + 3 * j + 2))) k) t))), (0, .ref (xa x (11 + 3 * i))), (1, .ref (xa x (11 + 3 * j))), (2, .int (bI bb))]) hx hb dX2_countCrossings_57 hl (k := 0) rfl (nI_add (t) 1) (by decide) rfl (fun ls hl => ?_)
                refine lv_goto (tgt := 17) hx hb dX2_countCrossings_60 (by decide) ?_
                exact ih_17 (t + 1) (by omega) (by omega)  _ _ hP hV ls (lv_sub hl [0, 1, 2, 3, 4, 5] (show ([(5, .int (nI (t + 1))), (4, .int (nI k)), (3, .int (nI (cnt2 (fX bb (M (11 + 3 * i + 1)) (M (11 + 3 * i + 2)) (M (11 + 3 * j + 1)) (M (11 + 3 * j + 2))) u k + cntB ((fX bb (M (11 + 3 * i + 1)) (M (11 + 3 * i + 2)) (M (11 + 3 * j + 1)) (M (11 + 3 * j + 2))) k) t))), (0, .ref (xa x (11 + 3 * i))), (1, .ref (xa x (11 + 3 * j))), (2, .int (bI bb))] : List (Nat × Value)) = [(5, .int (nI (t + 1))), (4, .int (nI k)), (3, .int (nI (cnt2 (fX bb (M (11 + 3 * i + 1)) (M (11 + 3 * i + 2)) (M (11 + 3 * j + 1)) (M (11 + 3 * j + 2))) u k + cntB ((fX bb (M (11 + 3 * i + 1)) (M (11 + 3 * i + 2)) (M (11 + 3 * j + 1)) (M (11 + 3 * j + 2))) k) (t + 1)))), (0, .ref (xa x (11 + 3 * i))), (1, .ref (xa x (11 + 3 * j))), (2, .int (bI bb))] from by have hv : (fX bb (M (11 + 3 * i + 1)) (M (11 + 3 * i + 2)) (M (11 + 3 * j + 1)) (M (11 + 3 * j + 2))) k t = false := (by simp [fX, c_1, c_2, c_3]); rw [cntB_f (f := (fX bb (M (11 + 3 * i + 1)) (M (11 + 3 * i + 2)) (M (11 + 3 * j + 1)) (M (11 + 3 * j + 2))) k) (t := t) hv]; try rfl))
              · -- on
                refine lv_iload_n hx hb dX2_countCrossings_38 rfl (lv_at hl 5 rfl) ?_
                refine h_if_eq_b (tgt := 54) hx hb dX2_countCrossings_39 (by decide) (fun c_4 => ?_) (fun c_4 => ?_)
                · -- taken
                  refine lv_iinc (v := nI ((cnt2 (fX bb (M (11 + 3 * i + 1)) (M (11 + 3 * i + 2)) (M (11 + 3 * j + 1)) (M (11 + 3 * j + 2))) u k + cntB ((fX bb (M (11 + 3 * i + 1)) (M (11 + 3 * i + 2)) (M (11 + 3 * j + 1)) (M (11 + 3 * j + 2))) k) t) + 1)) (lv' := [(3, .int (nI ((cnt2 (fX bb (M (11 + 3 * i + 1)) (M (11 + 3 * i + 2)) (M (11 + 3 * j + 1)) (M (11 + 3 * j + 2))) u k + cntB ((fX bb (M (11 + 3 * i + 1)) (M (11 + 3 * i + 2)) (M (11 + 3 * j + 1)) (M (11 + 3 * j + 2))) k) t) + 1))), (5, .int (nI t)), (4, .int (nI k)), (0, .ref (xa x (11 + 3 * i))), (1, .ref (xa x (11 + 3 * j))), (2, .int (bI bb))]) hx hb dX2_countCrossings_54 hl (k := 2) rfl (nI_add (cnt2 (fX bb (M (11 + 3 * i + 1)) (M (11 + 3 * i + 2)) (M (11 + 3 * j + 1)) (M (11 + 3 * j + 2))) u k + cntB ((fX bb (M (11 + 3 * i + 1)) (M (11 + 3 * i + 2)) (M (11 + 3 * j + 1)) (M (11 + 3 * j + 2))) k) t) 1) (by decide) rfl (fun ls hl => ?_)
                  refine lv_iinc (v := nI (t + 1)) (lv' := [(5, .int (nI (t + 1))), (3, .int (nI ((cnt2 (fX bb (M (11 + 3 * i + 1)) (M (11 + 3 * i + 2)) (M (11 + 3 * j + 1)) (M (11 + 3 * j + 2))) u k + cntB ((fX bb (M (11 + 3 * i + 1)) (M (11 + 3 * i + 2)) (M (11 + 3 * j + 1)) (M (11 + 3 * j + 2))) k) t) + 1))), (4, .int (nI k)), (0, .ref (xa x (11 + 3 * i))), (1, .ref (xa x (11 + 3 * j))), (2, .int (bI bb))]) hx hb dX2_countCrossings_57 hl (k := 1) rfl (nI_add (t) 1) (by decide) rfl (fun ls hl => ?_)
                  refine lv_goto (tgt := 17) hx hb dX2_countCrossings_60 (by decide) ?_
                  exact ih_17 (t + 1) (by omega) (by omega)  _ _ hP hV ls (lv_sub hl [0, 2, 1, 3, 4, 5] (show ([(5, .int (nI (t + 1))), (4, .int (nI k)), (3, .int (nI ((cnt2 (fX bb (M (11 + 3 * i + 1)) (M (11 + 3 * i + 2)) (M (11 + 3 * j + 1)) (M (11 + 3 * j + 2))) u k + cntB ((fX bb (M (11 + 3 * i + 1)) (M (11 + 3 * i + 2)) (M (11 + 3 * j + 1)) (M (11 + 3 * j + 2))) k) t) + 1))), (0, .ref (xa x (11 + 3 * i))), (1, .ref (xa x (11 + 3 * j))), (2, .int (bI bb))] : List (Nat × Value)) = [(5, .int (nI (t + 1))), (4, .int (nI k)), (3, .int (nI (cnt2 (fX bb (M (11 + 3 * i + 1)) (M (11 + 3 * i + 2)) (M (11 + 3 * j + 1)) (M (11 + 3 * j + 2))) u k + cntB ((fX bb (M (11 + 3 * i + 1)) (M (11 + 3 * i + 2)) (M (11 + 3 * j + 1)) (M (11 + 3 * j + 2))) k) (t + 1)))), (0, .ref (xa x (11 + 3 * i))), (1, .ref (xa x (11 + 3 * j))), (2, .int (bI bb))] from by have hv : (fX bb (M (11 + 3 * i + 1)) (M (11 + 3 * i + 2)) (M (11 + 3 * j + 1)) (M (11 + 3 * j + 2))) k t = true := (by simp [fX, c_1, c_2, c_3, c_4]); rw [cntB_t (f := (fX bb (M (11 + 3 * i + 1)) (M (11 + 3 * i + 2)) (M (11 + 3 * j + 1)) (M (11 + 3 * j + 2))) k) (t := t) hv]; try rfl))
                · -- on
                  refine lv_aload_n hx hb dX2_countCrossings_42 rfl (lv_at hl 3 rfl) ?_
                  refine lv_iload hx hb dX2_countCrossings_43 (lv_at hl 1 rfl) ?_
                  refine lv_aload_n hx hb dX2_countCrossings_45 rfl (lv_at hl 4 rfl) ?_
                  refine lv_iload hx hb dX2_countCrossings_46 (lv_at hl 0 rfl) ?_
                  refine g_call1 (va_runVN (As := [.int (nI k), .ref (xa x (11 + 3 * j)), .int (nI t)]) (rest := []) ⟨hx, hb, hml, hown, hts⟩ (c_X1_pieceIsSteepTo l x M i k j t (by omega) (by omega) (by omega) (by omega)) ⟨va_cnB (host := RX2) 3 hts gX2_countCrossings_X1_pieceIsSteepTo_n219 rfl rfl rfl (hS.2.2.2.2.1 _ (by decide +kernel)) hw_iX1 (by decide +kernel) ⟨Nat.le_of_ble_eq_true rfl, Nat.le_of_ble_eq_true rfl⟩, hw_imX1_pieceIsSteepTo, hw_seX1_pieceIsSteepTo⟩ (g_preV hS hZ hP hV [.int (nI k), .ref (xa x (11 + 3 * j)), .int (nI t)] (id := 11 + 3 * i) (by omega) (sh_r x _ (by omega)) rfl) rfl rfl hl.1 rfl (lv_room (Nat.le_of_ble_eq_true rfl)) dX2_countCrossings_48 ⟨Nat.le_of_ble_eq_true rfl, Nat.le_of_ble_eq_true rfl⟩) hV (fun H locs hP hV => ?_)
                  refine h_if_eq_b (tgt := 57) hx hb dX2_countCrossings_51 (by decide) (fun c_5 => ?_) (fun c_5 => ?_)
                  · -- taken
                    refine lv_iinc (v := nI (t + 1)) (lv' := [(5, .int (nI (t + 1))), (4, .int (nI k)), (3, .int (nI (cnt2 (fX bb (M (11 + 3 * i + 1)) (M (11 + 3 * i + 2)) (M (11 + 3 * j + 1)) (M (11 + 3 * j + 2))) u k + cntB ((fX bb (M (11 + 3 * i + 1)) (M (11 + 3 * i + 2)) (M (11 + 3 * j + 1)) (M (11 + 3 * j + 2))) k) t))), (0, .ref (xa x (11 + 3 * i))), (1, .ref (xa x (11 + 3 * j))), (2, .int (bI bb))]) hx hb dX2_countCrossings_57 hl (k := 0) rfl (nI_add (t) 1) (by decide) rfl (fun ls hl => ?_)
                    refine lv_goto (tgt := 17) hx hb dX2_countCrossings_60 (by decide) ?_
                    exact ih_17 (t + 1) (by omega) (by omega)  _ _ hP hV ls (lv_sub hl [0, 1, 2, 3, 4, 5] (show ([(5, .int (nI (t + 1))), (4, .int (nI k)), (3, .int (nI (cnt2 (fX bb (M (11 + 3 * i + 1)) (M (11 + 3 * i + 2)) (M (11 + 3 * j + 1)) (M (11 + 3 * j + 2))) u k + cntB ((fX bb (M (11 + 3 * i + 1)) (M (11 + 3 * i + 2)) (M (11 + 3 * j + 1)) (M (11 + 3 * j + 2))) k) t))), (0, .ref (xa x (11 + 3 * i))), (1, .ref (xa x (11 + 3 * j))), (2, .int (bI bb))] : List (Nat × Value)) = [(5, .int (nI (t + 1))), (4, .int (nI k)), (3, .int (nI (cnt2 (fX bb (M (11 + 3 * i + 1)) (M (11 + 3 * i + 2)) (M (11 + 3 * j + 1)) (M (11 + 3 * j + 2))) u k + cntB ((fX bb (M (11 + 3 * i + 1)) (M (11 + 3 * i + 2)) (M (11 + 3 * j + 1)) (M (11 + 3 * j + 2))) k) (t + 1)))), (0, .ref (xa x (11 + 3 * i))), (1, .ref (xa x (11 + 3 * j))), (2, .int (bI bb))] from by have hv : (fX bb (M (11 + 3 * i + 1)) (M (11 + 3 * i + 2)) (M (11 + 3 * j + 1)) (M (11 + 3 * j + 2))) k t = false := (by simp [fX, c_1, c_2, c_3, c_4, c_5]); rw [cntB_f (f := (fX bb (M (11 + 3 * i + 1)) (M (11 + 3 * i + 2)) (M (11 + 3 * j + 1)) (M (11 + 3 * j + 2))) k) (t := t) hv]; try rfl))
                  · -- on
                    refine lv_iinc (v := nI ((cnt2 (fX bb (M (11 + 3 * i + 1)) (M (11 + 3 * i + 2)) (M (11 + 3 * j + 1)) (M (11 + 3 * j + 2))) u k + cntB ((fX bb (M (11 + 3 * i + 1)) (M (11 + 3 * i + 2)) (M (11 + 3 * j + 1)) (M (11 + 3 * j + 2))) k) t) + 1)) (lv' := [(3, .int (nI ((cnt2 (fX bb (M (11 + 3 * i + 1)) (M (11 + 3 * i + 2)) (M (11 + 3 * j + 1)) (M (11 + 3 * j + 2))) u k + cntB ((fX bb (M (11 + 3 * i + 1)) (M (11 + 3 * i + 2)) (M (11 + 3 * j + 1)) (M (11 + 3 * j + 2))) k) t) + 1))), (5, .int (nI t)), (4, .int (nI k)), (0, .ref (xa x (11 + 3 * i))), (1, .ref (xa x (11 + 3 * j))), (2, .int (bI bb))]) hx hb dX2_countCrossings_54 hl (k := 2) rfl (nI_add (cnt2 (fX bb (M (11 + 3 * i + 1)) (M (11 + 3 * i + 2)) (M (11 + 3 * j + 1)) (M (11 + 3 * j + 2))) u k + cntB ((fX bb (M (11 + 3 * i + 1)) (M (11 + 3 * i + 2)) (M (11 + 3 * j + 1)) (M (11 + 3 * j + 2))) k) t) 1) (by decide) rfl (fun ls hl => ?_)
                    refine lv_iinc (v := nI (t + 1)) (lv' := [(5, .int (nI (t + 1))), (3, .int (nI ((cnt2 (fX bb (M (11 + 3 * i + 1)) (M (11 + 3 * i + 2)) (M (11 + 3 * j + 1)) (M (11 + 3 * j + 2))) u k + cntB ((fX bb (M (11 + 3 * i + 1)) (M (11 + 3 * i + 2)) (M (11 + 3 * j + 1)) (M (11 + 3 * j + 2))) k) t) + 1))), (4, .int (nI k)), (0, .ref (xa x (11 + 3 * i))), (1, .ref (xa x (11 + 3 * j))), (2, .int (bI bb))]) hx hb dX2_countCrossings_57 hl (k := 1) rfl (nI_add (t) 1) (by decide) rfl (fun ls hl => ?_)
                    refine lv_goto (tgt := 17) hx hb dX2_countCrossings_60 (by decide) ?_
                    exact ih_17 (t + 1) (by omega) (by omega)  _ _ hP hV ls (lv_sub hl [0, 2, 1, 3, 4, 5] (show ([(5, .int (nI (t + 1))), (4, .int (nI k)), (3, .int (nI ((cnt2 (fX bb (M (11 + 3 * i + 1)) (M (11 + 3 * i + 2)) (M (11 + 3 * j + 1)) (M (11 + 3 * j + 2))) u k + cntB ((fX bb (M (11 + 3 * i + 1)) (M (11 + 3 * i + 2)) (M (11 + 3 * j + 1)) (M (11 + 3 * j + 2))) k) t) + 1))), (0, .ref (xa x (11 + 3 * i))), (1, .ref (xa x (11 + 3 * j))), (2, .int (bI bb))] : List (Nat × Value)) = [(5, .int (nI (t + 1))), (4, .int (nI k)), (3, .int (nI (cnt2 (fX bb (M (11 + 3 * i + 1)) (M (11 + 3 * i + 2)) (M (11 + 3 * j + 1)) (M (11 + 3 * j + 2))) u k + cntB ((fX bb (M (11 + 3 * i + 1)) (M (11 + 3 * i + 2)) (M (11 + 3 * j + 1)) (M (11 + 3 * j + 2))) k) (t + 1)))), (0, .ref (xa x (11 + 3 * i))), (1, .ref (xa x (11 + 3 * j))), (2, .int (bI bb))] from by have hv : (fX bb (M (11 + 3 * i + 1)) (M (11 + 3 * i + 2)) (M (11 + 3 * j + 1)) (M (11 + 3 * j + 2))) k t = true := (by simp [fX, c_1, c_2, c_3, c_4, c_5]); rw [cntB_t (f := (fX bb (M (11 + 3 * i + 1)) (M (11 + 3 * i + 2)) (M (11 + 3 * j + 1)) (M (11 + 3 * j + 2))) k) (t := t) hv]; try rfl))
        exact lp_17 (u - (0) + 1) (0) (by omega) (by omega)  _ _ hP hV ls (lv_sub hl [0, 1, 2, 3, 4, 5] (show ([(5, .int 0), (4, .int (nI k)), (3, .int (nI (cnt2 (fX bb (M (11 + 3 * i + 1)) (M (11 + 3 * i + 2)) (M (11 + 3 * j + 1)) (M (11 + 3 * j + 2))) u k))), (0, .ref (xa x (11 + 3 * i))), (1, .ref (xa x (11 + 3 * j))), (2, .int (bI bb))] : List (Nat × Value)) = [(5, .int 0), (4, .int (nI k)), (3, .int (nI (cnt2 (fX bb (M (11 + 3 * i + 1)) (M (11 + 3 * i + 2)) (M (11 + 3 * j + 1)) (M (11 + 3 * j + 2))) u k + cntB ((fX bb (M (11 + 3 * i + 1)) (M (11 + 3 * i + 2)) (M (11 + 3 * j + 1)) (M (11 + 3 * j + 2))) k) 0))), (0, .ref (xa x (11 + 3 * i))), (1, .ref (xa x (11 + 3 * j))), (2, .int (bI bb))] from by rfl))
  exact lp_5 (n - (0) + 1) (0) (by omega) (by omega)  _ _ hP hV ls (lv_sub hl [0, 1, 2, 3, 4] (show ([(4, .int 0), (3, .int 0), (0, .ref (xa x (11 + 3 * i))), (1, .ref (xa x (11 + 3 * j))), (2, .int (bI bb))] : List (Nat × Value)) = [(4, .int 0), (3, .int (nI (cnt2 (fX bb (M (11 + 3 * i + 1)) (M (11 + 3 * i + 2)) (M (11 + 3 * j + 1)) (M (11 + 3 * j + 2))) u 0))), (0, .ref (xa x (11 + 3 * i))), (1, .ref (xa x (11 + 3 * j))), (2, .int (bI bb))] from by rfl))
set_option maxHeartbeats 4000000 in
set_option maxRecDepth 100000 in
theorem c_X2_recount (l : Launch) (x : Cx) (M : Nat → Nat → Int32) (cn gn dn : Nat) (pn : Nat → Nat) (a b : Nat) (hO : OkO M cn gn dn pn) (ha : a < cn) (hb8 : b < cn) : Met l yX2_recount wsX2_recount ({ frames := 5, cells := 0, slots := 0, locals := 117 }) (gP x M [.ref (xa x 0), .int (nI a), .int (nI b)]) (gQ x none (recM M pn a b)) 0 0 (gF x) := by
  refine g_met (cc := cX2_recount) (maxL := 4) (ret := none) (by decide) rfl (Nat.le_of_ble_eq_true rfl) ?_
  intro p e s m below meth c hx hb hr hml hts hown hlk hS hZ hP hV ls hl
  have hl : lv_has ls 4 [(0, .ref (xa x 0)), (1, .int (nI a)), (2, .int (nI b))] := hl
  have hw_f24 := hts (.fieldLink RX2 24 "CableOffice" "crossed" "[I") (by decide +kernel)
  have hinX2 : ∀ w ∈ wsX20, w ∈ wsX2_recount := by decide +kernel
  have hw_f16 := hts (.fieldLink RX2 16 "CableOffice" "routes" "[LCableOffice$Route;") (by decide +kernel)
  have hw_f28 := hts (.fieldLink RX2 28 "CableOffice" "crossedSteeply" "[I") (by decide +kernel)
  have hc8 := hO.c8
  have hg5 := hO.g5
  have hd8 := hO.d8
  have h7a := hO.p7 ha
  have h7b := hO.p7 hb8
  have hp64 := pr_lt (show a < 8 by omega) (show b < 8 by omega)
  refine lv_iload_n hx hb dX2_recount_0 rfl (lv_at hl 1 rfl) ?_
  refine lv_iload_n hx hb dX2_recount_1 rfl (lv_at hl 2 rfl) ?_
  refine g_call1 (va_runS (As := [.int (nI a), .int (nI b)]) (rest := []) ⟨hx, hb, hml, hown, hts⟩ (c_X2_pairOf l x M a b (by omega) (by omega)) (va_cwS 2 hts gX2_recount_X2_pairOf rfl rfl rfl (by decide +kernel) ⟨Nat.le_of_ble_eq_true rfl, Nat.le_of_ble_eq_true rfl⟩) (g_preS hS hZ hP hV [.int (nI a), .int (nI b)]) rfl rfl hl.1 rfl (lv_room (Nat.le_of_ble_eq_true rfl)) dX2_recount_2 ⟨Nat.le_of_ble_eq_true rfl, Nat.le_of_ble_eq_true rfl⟩) hV (fun H locs hP hV => ?_)
  refine lv_istore_n (lv' := [(3, .int (nI (pr a b))), (0, .ref (xa x 0)), (1, .int (nI a)), (2, .int (nI b))]) hx hb dX2_recount_5 rfl hl (by decide) rfl (fun ls hl => ?_)
  refine lv_aload_n hx hb dX2_recount_6 rfl (lv_at hl 1 rfl) ?_
  refine g_get (C := RX2) (T := TX2) (N := 9) (v := .ref (xa x 2)) hx hb hts hinX2 hown hS hP (id := 0) (by decide) rfl rfl 3 (by decide) hw_f24 rfl dX2_recount_7 ?_
  refine lv_iload_n hx hb dX2_recount_10 rfl (lv_at hl 0 rfl) ?_
  refine lv_aload_n hx hb dX2_recount_11 rfl (lv_at hl 1 rfl) ?_
  refine g_get (C := RX2) (T := TX2) (N := 9) (v := .ref (xa x 1)) hx hb hts hinX2 hown hS hP (id := 0) (by decide) rfl rfl 1 (by decide) hw_f16 rfl dX2_recount_12 ?_
  refine lv_iload_n hx hb dX2_recount_15 rfl (lv_at hl 2 rfl) ?_
  refine g_aaldR (j := a) hx hb hS hP rfl (by omega) dX2_recount_16 ?_
  refine lv_aload_n hx hb dX2_recount_17 rfl (lv_at hl 1 rfl) ?_
  refine g_get (C := RX2) (T := TX2) (N := 9) (v := .ref (xa x 1)) hx hb hts hinX2 hown hS hP (id := 0) (by decide) rfl rfl 1 (by decide) hw_f16 rfl dX2_recount_18 ?_
  refine lv_iload_n hx hb dX2_recount_21 rfl (lv_at hl 3 rfl) ?_
  refine g_aaldR (j := b) hx hb hS hP rfl (by omega) dX2_recount_22 ?_
  refine lv_iconst (v := 0) hx hb dX2_recount_23 (by decide) ?_
  refine g_call1 (va_runS (As := [.ref (xa x (11 + 3 * a)), .ref (xa x (11 + 3 * b)), .int 0]) (rest := [.int (nI (pr a b)), .ref (xa x 2)]) ⟨hx, hb, hml, hown, hts⟩ (c_X2_countCrossings l x M a b (pn a) (pn b) false (by omega) (by omega) (hO.p (by omega)) (hO.p (by omega)) (by omega) (by omega)) (va_cwS 3 hts gX2_recount_X2_countCrossings rfl rfl rfl (by decide +kernel) ⟨Nat.le_of_ble_eq_true rfl, Nat.le_of_ble_eq_true rfl⟩) (g_preS hS hZ hP hV [.ref (xa x (11 + 3 * a)), .ref (xa x (11 + 3 * b)), .int 0]) rfl rfl hl.1 rfl (lv_room (Nat.le_of_ble_eq_true rfl)) dX2_recount_24 ⟨Nat.le_of_ble_eq_true rfl, Nat.le_of_ble_eq_true rfl⟩) hV (fun H locs hP hV => ?_)
  refine g_iast (j := pr a b) hx hb hS hP hV (id := 2) (by omega) (fun _ => rfl) (by decide) rfl (by omega) dX2_recount_27 (fun H locs hP hV => ?_)
  have hO_1 : OkO (up2 M 2 (pr a b) (nI (cnX false M pn a b))) cn gn dn pn := hO.up (by omega)
  refine lv_aload_n hx hb dX2_recount_28 rfl (lv_at hl 1 rfl) ?_
  refine g_get (C := RX2) (T := TX2) (N := 9) (v := .ref (xa x 3)) hx hb hts hinX2 hown hS hP (id := 0) (by decide) rfl rfl 4 (by decide) hw_f28 rfl dX2_recount_29 ?_
  refine lv_iload_n hx hb dX2_recount_32 rfl (lv_at hl 0 rfl) ?_
  refine lv_aload_n hx hb dX2_recount_33 rfl (lv_at hl 1 rfl) ?_
  refine g_get (C := RX2) (T := TX2) (N := 9) (v := .ref (xa x 1)) hx hb hts hinX2 hown hS hP (id := 0) (by decide) rfl rfl 1 (by decide) hw_f16 rfl dX2_recount_34 ?_
  refine lv_iload_n hx hb dX2_recount_37 rfl (lv_at hl 2 rfl) ?_
  refine g_aaldR (j := a) hx hb hS hP rfl (by omega) dX2_recount_38 ?_
  refine lv_aload_n hx hb dX2_recount_39 rfl (lv_at hl 1 rfl) ?_
  refine g_get (C := RX2) (T := TX2) (N := 9) (v := .ref (xa x 1)) hx hb hts hinX2 hown hS hP (id := 0) (by decide) rfl rfl 1 (by decide) hw_f16 rfl dX2_recount_40 ?_
  refine lv_iload_n hx hb dX2_recount_43 rfl (lv_at hl 3 rfl) ?_
  refine g_aaldR (j := b) hx hb hS hP rfl (by omega) dX2_recount_44 ?_
  refine lv_iconst (v := 1) hx hb dX2_recount_45 (by decide) ?_
  refine g_call1 (va_runS (As := [.ref (xa x (11 + 3 * a)), .ref (xa x (11 + 3 * b)), .int 1]) (rest := [.int (nI (pr a b)), .ref (xa x 3)]) ⟨hx, hb, hml, hown, hts⟩ (c_X2_countCrossings l x (up2 M 2 (pr a b) (nI (cnX false M pn a b))) a b (pn a) (pn b) true (by omega) (by omega) (hO_1.p (by omega)) (hO_1.p (by omega)) (by omega) (by omega)) (va_cwS 3 hts gX2_recount_X2_countCrossings rfl rfl rfl (by decide +kernel) ⟨Nat.le_of_ble_eq_true rfl, Nat.le_of_ble_eq_true rfl⟩) (g_preS hS hZ hP hV [.ref (xa x (11 + 3 * a)), .ref (xa x (11 + 3 * b)), .int 1]) rfl rfl hl.1 rfl (lv_room (Nat.le_of_ble_eq_true rfl)) dX2_recount_46 ⟨Nat.le_of_ble_eq_true rfl, Nat.le_of_ble_eq_true rfl⟩) hV (fun H locs hP hV => ?_)
  refine g_iast (j := pr a b) hx hb hS hP hV (id := 3) (by omega) (fun _ => rfl) (by decide) rfl (by omega) dX2_recount_49 (fun H locs hP hV => ?_)
  have hO_2 : OkO (up2 (up2 M 2 (pr a b) (nI (cnX false M pn a b))) 3 (pr a b) (nI (cnX true (up2 M 2 (pr a b) (nI (cnX false M pn a b))) pn a b))) cn gn dn pn := hO_1.up (by omega)
  exact g_vret hx hb hr hlk hS hZ hP hV (Nat.le_of_ble_eq_true rfl) (Nat.le_of_ble_eq_true rfl) dX2_recount_50 (by rfl)
set_option maxHeartbeats 4000000 in
set_option maxRecDepth 100000 in
theorem c_X2_countBarePairs (l : Launch) (x : Cx) (M : Nat → Nat → Int32) (cn gn dn : Nat) (pn : Nat → Nat) (hO : OkO M cn gn dn pn) : Met l yX2_countBarePairs wsX2_countBarePairs ({ frames := 2, cells := 0, slots := 0, locals := 42 }) (gP x M [.ref (xa x 0)]) (gQ x (some (.int (nI (bpO M cn cn)))) M) 0 0 (gF x) := by
  refine g_met (cc := cX2_countBarePairs) (maxL := 5) (ret := some .int) (by decide) rfl (Nat.le_of_ble_eq_true rfl) ?_
  intro p e s m below meth c hx hb hr hml hts hown hlk hS hZ hP hV ls hl
  have hl : lv_has ls 5 [(0, .ref (xa x 0))] := hl
  have hw_f20 := hts (.fieldLink RX2 20 "CableOffice" "cableCount" "I") (by decide +kernel)
  have hinX2 : ∀ w ∈ wsX20, w ∈ wsX2_countBarePairs := by decide +kernel
  have hw_f24 := hts (.fieldLink RX2 24 "CableOffice" "crossed" "[I") (by decide +kernel)
  have hw_f31 := hts (.fieldLink RX2 31 "CableOffice" "agreed" "[Z") (by decide +kernel)
  have hc8 := hO.c8
  have hg5 := hO.g5
  have hd8 := hO.d8
  refine lv_iconst (v := 0) hx hb dX2_countBarePairs_0 (by decide) ?_
  refine lv_istore_n (lv' := [(1, .int 0), (0, .ref (xa x 0))]) hx hb dX2_countBarePairs_1 rfl hl (by decide) rfl (fun ls hl => ?_)
  refine lv_iconst (v := 0) hx hb dX2_countBarePairs_2 (by decide) ?_
  refine lv_istore_n (lv' := [(2, .int 0), (1, .int 0), (0, .ref (xa x 0))]) hx hb dX2_countBarePairs_3 rfl hl (by decide) rfl (fun ls hl => ?_)
  have lp_4 : ∀ (nn k : Nat), cn - k < nn → k ≤ cn → ∀ (H : Heap) (locs : List Loc), va_P (xD x) vwCl (wAll x M) H → va_S (gF x) s.heap H locs → ∀ ls : Array Slot, lv_has ls 5 [(2, .int (nI k)), (1, .int (nI (bpO M cn k))), (0, .ref (xa x 0))] → W p l e ({ frames := 2, cells := 0, slots := 0, locals := 42 }) s m ([.ref (xa x 0)] : List Value).toArray below meth c H locs 0 0 (MQ below (gQ x (some (.int (nI (bpO M cn cn)))) M) ([.ref (xa x 0)] : List Value).toArray s 0 0 (gF x)) (F0 m 4 ls []) := by
    intro nn
    induction nn with
    | zero => intro k hz; exact absurd hz (Nat.not_lt_zero _)
    | succ nn ih_4 =>
      intro k hf_4 hk_4  H locs hP hV ls hl
      have hbp := bpO_le M cn k
      refine lv_iload_n hx hb dX2_countBarePairs_4 rfl (lv_at hl 0 rfl) ?_
      refine lv_aload_n hx hb dX2_countBarePairs_5 rfl (lv_at hl 2 rfl) ?_
      refine g_get (C := RX2) (T := TX2) (N := 9) (v := .int (nI cn)) hx hb hts hinX2 hown hS hP (id := 0) (by decide) rfl rfl 2 (by decide) hw_f20 (congrArg (fun z => some (Value.int z)) hO.c) dX2_countBarePairs_6 ?_
      refine h_icmp_ge_n (a := k) (b := cn) (tgt := 66) hx hb (by omega) (by omega) dX2_countBarePairs_9 (by decide) (fun c_1 => ?_) (fun c_1 => ?_)
      · -- taken
        refine lv_iload_n hx hb dX2_countBarePairs_66 rfl (lv_at hl 1 rfl) ?_
        exact g_iret hx hb hr hlk hS hZ hP hV (Nat.le_of_ble_eq_true rfl) (Nat.le_of_ble_eq_true rfl) dX2_countBarePairs_67 (by rw [show k = cn by omega]) (by rfl)
      · -- on
        refine lv_iload_n hx hb dX2_countBarePairs_12 rfl (lv_at hl 0 rfl) ?_
        refine lv_iconst (v := 1) hx hb dX2_countBarePairs_13 (by decide) ?_
        refine h_iadd (v := nI (k + 1)) hx hb dX2_countBarePairs_14 (nI_add (k) (1)) ?_
        refine lv_istore_n (lv' := [(3, .int (nI (k + 1))), (2, .int (nI k)), (1, .int (nI (bpO M cn k))), (0, .ref (xa x 0))]) hx hb dX2_countBarePairs_15 rfl hl (by decide) rfl (fun ls hl => ?_)
        have lp_16 : ∀ (nn t : Nat), (cn - (k + 1)) - t < nn → t ≤ (cn - (k + 1)) → ∀ (H : Heap) (locs : List Loc), va_P (xD x) vwCl (wAll x M) H → va_S (gF x) s.heap H locs → ∀ ls : Array Slot, lv_has ls 5 [(3, .int (nI (k + 1 + t))), (2, .int (nI k)), (1, .int (nI (bpO M cn k + cntB (fun j => baO M k (k + 1 + j)) t))), (0, .ref (xa x 0))] → W p l e ({ frames := 2, cells := 0, slots := 0, locals := 42 }) s m ([.ref (xa x 0)] : List Value).toArray below meth c H locs 0 0 (MQ below (gQ x (some (.int (nI (bpO M cn cn)))) M) ([.ref (xa x 0)] : List Value).toArray s 0 0 (gF x)) (F0 m 16 ls []) := by
          intro nn
          induction nn with
          | zero => intro t hz; exact absurd hz (Nat.not_lt_zero _)
          | succ nn ih_16 =>
            intro t hf_16 hk_16  H locs hP hV ls hl
            have hcb := cntB_le (fun j => baO M k (k + 1 + j)) t
            refine lv_iload_n hx hb dX2_countBarePairs_16 rfl (lv_at hl 0 rfl) ?_
            refine lv_aload_n hx hb dX2_countBarePairs_17 rfl (lv_at hl 3 rfl) ?_
            refine g_get (C := RX2) (T := TX2) (N := 9) (v := .int (nI cn)) hx hb hts hinX2 hown hS hP (id := 0) (by decide) rfl rfl 2 (by decide) hw_f20 (congrArg (fun z => some (Value.int z)) hO.c) dX2_countBarePairs_18 ?_
            refine h_icmp_ge_n (a := k + 1 + t) (b := cn) (tgt := 60) hx hb (by omega) (by omega) dX2_countBarePairs_21 (by decide) (fun c_2 => ?_) (fun c_2 => ?_)
            · -- taken
              refine lv_iinc (v := nI (k + 1)) (lv' := [(2, .int (nI (k + 1))), (3, .int (nI (k + 1 + t))), (1, .int (nI (bpO M cn k + cntB (fun j => baO M k (k + 1 + j)) t))), (0, .ref (xa x 0))]) hx hb dX2_countBarePairs_60 hl (k := 1) rfl (nI_add (k) 1) (by decide) rfl (fun ls hl => ?_)
              refine lv_goto (tgt := 4) hx hb dX2_countBarePairs_63 (by decide) ?_
              exact ih_4 (k + 1) (by omega) (by omega)  _ _ hP hV ls (lv_sub hl [0, 2, 3] (show ([(2, .int (nI (k + 1))), (1, .int (nI (bpO M cn k + cntB (fun j => baO M k (k + 1 + j)) t))), (0, .ref (xa x 0))] : List (Nat × Value)) = [(2, .int (nI (k + 1))), (1, .int (nI (bpO M cn (k + 1)))), (0, .ref (xa x 0))] from by simp [bpO, show t = cn - (k + 1) by omega]))
            · -- on
              have hp64 := pr_lt (show k < 8 by omega) (show k + 1 + t < 8 by omega)
              refine lv_iload_n hx hb dX2_countBarePairs_24 rfl (lv_at hl 1 rfl) ?_
              refine lv_iload_n hx hb dX2_countBarePairs_25 rfl (lv_at hl 0 rfl) ?_
              refine g_call1 (va_runS (As := [.int (nI k), .int (nI (k + 1 + t))]) (rest := []) ⟨hx, hb, hml, hown, hts⟩ (c_X2_pairOf l x M k (k + 1 + t) (by omega) (by omega)) (va_cwS 2 hts gX2_countBarePairs_X2_pairOf rfl rfl rfl (by decide +kernel) ⟨Nat.le_of_ble_eq_true rfl, Nat.le_of_ble_eq_true rfl⟩) (g_preS hS hZ hP hV [.int (nI k), .int (nI (k + 1 + t))]) rfl rfl hl.1 rfl (lv_room (Nat.le_of_ble_eq_true rfl)) dX2_countBarePairs_26 ⟨Nat.le_of_ble_eq_true rfl, Nat.le_of_ble_eq_true rfl⟩) hV (fun H locs hP hV => ?_)
              refine lv_istore (lv' := [(4, .int (nI (pr k (k + 1 + t)))), (3, .int (nI (k + 1 + t))), (2, .int (nI k)), (1, .int (nI (bpO M cn k + cntB (fun j => baO M k (k + 1 + j)) t))), (0, .ref (xa x 0))]) hx hb dX2_countBarePairs_29 hl (by decide) rfl (fun ls hl => ?_)
              refine lv_aload_n hx hb dX2_countBarePairs_31 rfl (lv_at hl 4 rfl) ?_
              refine g_get (C := RX2) (T := TX2) (N := 9) (v := .ref (xa x 2)) hx hb hts hinX2 hown hS hP (id := 0) (by decide) rfl rfl 3 (by decide) hw_f24 rfl dX2_countBarePairs_32 ?_
              refine lv_iload hx hb dX2_countBarePairs_35 (lv_at hl 0 rfl) ?_
              refine g_iald (j := pr k (k + 1 + t)) hx hb hS hP (id := 2) (by omega) ((fun _ => rfl) _) (by decide) rfl (by omega) dX2_countBarePairs_37 ?_
              refine lv_if_le (tgt := 54) hx hb dX2_countBarePairs_38 (by decide) (fun c_3 => ?_) (fun c_3 => ?_)
              · -- taken
                refine lv_iinc (v := nI (k + 1 + t + 1)) (lv' := [(3, .int (nI (k + 1 + t + 1))), (4, .int (nI (pr k (k + 1 + t)))), (2, .int (nI k)), (1, .int (nI (bpO M cn k + cntB (fun j => baO M k (k + 1 + j)) t))), (0, .ref (xa x 0))]) hx hb dX2_countBarePairs_54 hl (k := 1) rfl (nI_add (k + 1 + t) 1) (by decide) rfl (fun ls hl => ?_)
                refine lv_goto (tgt := 16) hx hb dX2_countBarePairs_57 (by decide) ?_
                exact ih_16 (t + 1) (by omega) (by omega)  _ _ hP hV ls (lv_sub hl [0, 2, 3, 4] (show ([(3, .int (nI (k + 1 + t + 1))), (2, .int (nI k)), (1, .int (nI (bpO M cn k + cntB (fun j => baO M k (k + 1 + j)) t))), (0, .ref (xa x 0))] : List (Nat × Value)) = [(3, .int (nI (k + 1 + (t + 1)))), (2, .int (nI k)), (1, .int (nI (bpO M cn k + cntB (fun j => baO M k (k + 1 + j)) (t + 1)))), (0, .ref (xa x 0))] from by have hv : (fun j => baO M k (k + 1 + j)) t = false := (by simp [baO, c_1, c_2, c_3]); rw [cntB_f (f := (fun j => baO M k (k + 1 + j))) (t := t) hv]; try rfl))
              · -- on
                refine lv_aload_n hx hb dX2_countBarePairs_41 rfl (lv_at hl 4 rfl) ?_
                refine g_get (C := RX2) (T := TX2) (N := 9) (v := .ref (xa x 4)) hx hb hts hinX2 hown hS hP (id := 0) (by decide) rfl rfl 5 (by decide) hw_f31 rfl dX2_countBarePairs_42 ?_
                refine lv_iload hx hb dX2_countBarePairs_45 (lv_at hl 0 rfl) ?_
                refine g_zald (j := pr k (k + 1 + t)) hx hb hS hP (id := 4) (by omega) ((fun _ => rfl) _) (by decide) rfl (by omega) dX2_countBarePairs_47 ?_
                refine lv_if_ne (tgt := 54) hx hb dX2_countBarePairs_48 (by decide) (fun c_4 => ?_) (fun c_4 => ?_)
                · -- taken
                  refine lv_iinc (v := nI (k + 1 + t + 1)) (lv' := [(3, .int (nI (k + 1 + t + 1))), (4, .int (nI (pr k (k + 1 + t)))), (2, .int (nI k)), (1, .int (nI (bpO M cn k + cntB (fun j => baO M k (k + 1 + j)) t))), (0, .ref (xa x 0))]) hx hb dX2_countBarePairs_54 hl (k := 1) rfl (nI_add (k + 1 + t) 1) (by decide) rfl (fun ls hl => ?_)
                  refine lv_goto (tgt := 16) hx hb dX2_countBarePairs_57 (by decide) ?_
                  exact ih_16 (t + 1) (by omega) (by omega)  _ _ hP hV ls (lv_sub hl [0, 2, 3, 4] (show ([(3, .int (nI (k + 1 + t + 1))), (2, .int (nI k)), (1, .int (nI (bpO M cn k + cntB (fun j => baO M k (k + 1 + j)) t))), (0, .ref (xa x 0))] : List (Nat × Value)) = [(3, .int (nI (k + 1 + (t + 1)))), (2, .int (nI k)), (1, .int (nI (bpO M cn k + cntB (fun j => baO M k (k + 1 + j)) (t + 1)))), (0, .ref (xa x 0))] from by have hv : (fun j => baO M k (k + 1 + j)) t = false := (by simp [baO, c_1, c_2, c_3, c_4]); rw [cntB_f (f := (fun j => baO M k (k + 1 + j))) (t := t) hv]; try rfl))
                · -- on
                  refine lv_iinc (v := nI ((bpO M cn k + cntB (fun j => baO M k (k + 1 + j)) t) + 1)) (lv' := [(1, .int (nI ((bpO M cn k + cntB (fun j => baO M k (k + 1 + j)) t) + 1))), (4, .int (nI (pr k (k + 1 + t)))), (3, .int (nI (k + 1 + t))), (2, .int (nI k)), (0, .ref (xa x 0))]) hx hb dX2_countBarePairs_51 hl (k := 3) rfl (nI_add (bpO M cn k + cntB (fun j => baO M k (k + 1 + j)) t) 1) (by decide) rfl (fun ls hl => ?_)
                  refine lv_iinc (v := nI (k + 1 + t + 1)) (lv' := [(3, .int (nI (k + 1 + t + 1))), (1, .int (nI ((bpO M cn k + cntB (fun j => baO M k (k + 1 + j)) t) + 1))), (4, .int (nI (pr k (k + 1 + t)))), (2, .int (nI k)), (0, .ref (xa x 0))]) hx hb dX2_countBarePairs_54 hl (k := 2) rfl (nI_add (k + 1 + t) 1) (by decide) rfl (fun ls hl => ?_)
                  refine lv_goto (tgt := 16) hx hb dX2_countBarePairs_57 (by decide) ?_
                  exact ih_16 (t + 1) (by omega) (by omega)  _ _ hP hV ls (lv_sub hl [0, 3, 1, 4] (show ([(3, .int (nI (k + 1 + t + 1))), (2, .int (nI k)), (1, .int (nI ((bpO M cn k + cntB (fun j => baO M k (k + 1 + j)) t) + 1))), (0, .ref (xa x 0))] : List (Nat × Value)) = [(3, .int (nI (k + 1 + (t + 1)))), (2, .int (nI k)), (1, .int (nI (bpO M cn k + cntB (fun j => baO M k (k + 1 + j)) (t + 1)))), (0, .ref (xa x 0))] from by have hv : (fun j => baO M k (k + 1 + j)) t = true := (by simp [baO, c_1, c_2, c_3, c_4]); rw [cntB_t (f := (fun j => baO M k (k + 1 + j))) (t := t) hv]; try rfl))
        exact lp_16 ((cn - (k + 1)) - (0) + 1) (0) (by omega) (by omega)  _ _ hP hV ls (lv_sub hl [0, 1, 2, 3] (show ([(3, .int (nI (k + 1))), (2, .int (nI k)), (1, .int (nI (bpO M cn k))), (0, .ref (xa x 0))] : List (Nat × Value)) = [(3, .int (nI (k + 1))), (2, .int (nI k)), (1, .int (nI (bpO M cn k + cntB (fun j => baO M k (k + 1 + j)) 0))), (0, .ref (xa x 0))] from by rfl))
  exact lp_4 (cn - (0) + 1) (0) (by omega) (by omega)  _ _ hP hV ls (lv_sub hl [0, 1, 2] (show ([(2, .int 0), (1, .int 0), (0, .ref (xa x 0))] : List (Nat × Value)) = [(2, .int 0), (1, .int (nI (bpO M cn 0))), (0, .ref (xa x 0))] from by rfl))
set_option maxHeartbeats 4000000 in
set_option maxRecDepth 100000 in
theorem c_X2_liesOnLifted (l : Launch) (x : Cx) (M : Nat → Nat → Int32) (cn gn dn : Nat) (pn : Nat → Nat) (L : Int64) (b a q : Nat) (hO : OkO M cn gn dn pn) (hb8 : b < cn) (ha : a < cn) (hq : q < pn a) : Met l yX2_liesOnLifted wsX2_liesOnLifted ({ frames := 4, cells := 0, slots := 0, locals := 92 }) (gP x M [.ref (xa x 0), .long L, .int (nI b), .int (nI a), .int (nI q)]) (gQ x (some (.int (bI (loO2 M pn L b a q)))) M) 0 0 (gF x) := by
  refine g_met (cc := cX2_liesOnLifted) (maxL := 7) (ret := some .boolean) (by decide) rfl (Nat.le_of_ble_eq_true rfl) ?_
  intro p e s m below meth c hx hb hr hml hts hown hlk hS hZ hP hV ls hl
  have hl : lv_has ls 7 [(0, .ref (xa x 0)), (1, .long L), (3, .int (nI b)), (4, .int (nI a)), (5, .int (nI q))] := hl
  have hw_f16 := hts (.fieldLink RX2 16 "CableOffice" "routes" "[LCableOffice$Route;") (by decide +kernel)
  have hinX2 : ∀ w ∈ wsX20, w ∈ wsX2_liesOnLifted := by decide +kernel
  have hw_iX1 := hts (.initialized RX1) (by decide +kernel)
  have hw_imX1_pieces := hts (.instanceMethod yX1_pieces) (by decide +kernel)
  have hw_seX1_pieces := hts (.selects RX1 yX1_pieces yX1_pieces) (by decide +kernel)
  have hw_imX1_pieceCrosses := hts (.instanceMethod yX1_pieceCrosses) (by decide +kernel)
  have hw_seX1_pieceCrosses := hts (.selects RX1 yX1_pieceCrosses yX1_pieceCrosses) (by decide +kernel)
  have hc8 := hO.c8
  have hg5 := hO.g5
  have hd8 := hO.d8
  have h7b := hO.p7 hb8
  have h7a := hO.p7 ha
  refine lv_iconst (v := 0) hx hb dX2_liesOnLifted_0 (by decide) ?_
  refine lv_istore (lv' := [(6, .int 0), (0, .ref (xa x 0)), (1, .long L), (3, .int (nI b)), (4, .int (nI a)), (5, .int (nI q))]) hx hb dX2_liesOnLifted_1 hl (by decide) rfl (fun ls hl => ?_)
  have lp_3 : ∀ (nn k : Nat), (pn b) - k < nn → k ≤ (pn b) → anyB (fun k => inL L (8 * b + k) && crO (rX M b) (rY M b) k (rX M a) (rY M a) q) k = false → ∀ (H : Heap) (locs : List Loc), va_P (xD x) vwCl (wAll x M) H → va_S (gF x) s.heap H locs → ∀ ls : Array Slot, lv_has ls 7 [(6, .int (nI k)), (0, .ref (xa x 0)), (1, .long L), (3, .int (nI b)), (4, .int (nI a)), (5, .int (nI q))] → W p l e ({ frames := 4, cells := 0, slots := 0, locals := 92 }) s m ([.ref (xa x 0), .long L, .int (nI b), .int (nI a), .int (nI q)] : List Value).toArray below meth c H locs 0 0 (MQ below (gQ x (some (.int (bI (loO2 M pn L b a q)))) M) ([.ref (xa x 0), .long L, .int (nI b), .int (nI a), .int (nI q)] : List Value).toArray s 0 0 (gF x)) (F0 m 3 ls []) := by
    intro nn
    induction nn with
    | zero => intro k hz; exact absurd hz (Nat.not_lt_zero _)
    | succ nn ih_3 =>
      intro k hf_3 hk_3 hany H locs hP hV ls hl
      refine lv_iload hx hb dX2_liesOnLifted_3 (lv_at hl 0 rfl) ?_
      refine lv_aload_n hx hb dX2_liesOnLifted_5 rfl (lv_at hl 1 rfl) ?_
      refine g_get (C := RX2) (T := TX2) (N := 9) (v := .ref (xa x 1)) hx hb hts hinX2 hown hS hP (id := 0) (by decide) rfl rfl 1 (by decide) hw_f16 rfl dX2_liesOnLifted_6 ?_
      refine lv_iload_n hx hb dX2_liesOnLifted_9 rfl (lv_at hl 3 rfl) ?_
      refine g_aaldR (j := b) hx hb hS hP rfl (by omega) dX2_liesOnLifted_10 ?_
      refine g_call1 (va_runVN (As := []) (rest := [.int (nI k)]) ⟨hx, hb, hml, hown, hts⟩ (c_X1_pieces l x M b (pn b) (by omega) (hO.p (by omega))) ⟨va_cnB (host := RX2) 0 hts gX2_liesOnLifted_X1_pieces_n200 rfl rfl rfl (hS.2.2.2.2.1 _ (by decide +kernel)) hw_iX1 (by decide +kernel) ⟨Nat.le_of_ble_eq_true rfl, Nat.le_of_ble_eq_true rfl⟩, hw_imX1_pieces, hw_seX1_pieces⟩ (g_preV hS hZ hP hV [] (id := 11 + 3 * b) (by omega) (sh_r x _ (by omega)) rfl) rfl rfl hl.1 rfl (lv_room (Nat.le_of_ble_eq_true rfl)) dX2_liesOnLifted_11 ⟨Nat.le_of_ble_eq_true rfl, Nat.le_of_ble_eq_true rfl⟩) hV (fun H locs hP hV => ?_)
      refine h_icmp_ge_n (a := k) (b := pn b) (tgt := 58) hx hb (by omega) (by omega) dX2_liesOnLifted_14 (by decide) (fun c_1 => ?_) (fun c_1 => ?_)
      · -- taken
        refine lv_iconst (v := 0) hx hb dX2_liesOnLifted_58 (by decide) ?_
        exact g_zret hx hb hr hlk hS hZ hP hV (Nat.le_of_ble_eq_true rfl) (Nat.le_of_ble_eq_true rfl) dX2_liesOnLifted_59 (by decide) (by have h9 : loO2 M pn L b a q = false := (by rw [show k = pn b by omega] at hany; exact hany); rw [h9]; rfl) (by rfl)
      · -- on
        refine lv_lload_n hx hb dX2_liesOnLifted_17 rfl (lv_at hl 2 rfl) ?_
        refine lv_iload_n hx hb dX2_liesOnLifted_18 rfl (lv_at hl 3 rfl) ?_
        refine lv_iload hx hb dX2_liesOnLifted_19 (lv_at hl 0 rfl) ?_
        refine g_call1 (va_runS (As := [.long L, .int (nI b), .int (nI k)]) (rest := []) ⟨hx, hb, hml, hown, hts⟩ (c_X2_isIn l x M L b k) (va_cwS 3 hts gX2_liesOnLifted_X2_isIn rfl rfl rfl (by decide +kernel) ⟨Nat.le_of_ble_eq_true rfl, Nat.le_of_ble_eq_true rfl⟩) (g_preS hS hZ hP hV [.long L, .int (nI b), .int (nI k)]) rfl rfl hl.1 rfl (lv_room (Nat.le_of_ble_eq_true rfl)) dX2_liesOnLifted_21 ⟨Nat.le_of_ble_eq_true rfl, Nat.le_of_ble_eq_true rfl⟩) hV (fun H locs hP hV => ?_)
        refine h_if_eq_b (tgt := 52) hx hb dX2_liesOnLifted_24 (by decide) (fun c_2 => ?_) (fun c_2 => ?_)
        · -- taken
          refine lv_iinc (v := nI (k + 1)) (lv' := [(6, .int (nI (k + 1))), (0, .ref (xa x 0)), (1, .long L), (3, .int (nI b)), (4, .int (nI a)), (5, .int (nI q))]) hx hb dX2_liesOnLifted_52 hl (k := 0) rfl (nI_add (k) 1) (by decide) rfl (fun ls hl => ?_)
          refine lv_goto (tgt := 3) hx hb dX2_liesOnLifted_55 (by decide) ?_
          exact ih_3 (k + 1) (by omega) (by omega) (by exact anyB_f hany (by simp [rX, rY, c_1, c_2])) _ _ hP hV ls (lv_sub hl [0, 1, 2, 3, 4, 5] rfl)
        · -- on
          refine lv_aload_n hx hb dX2_liesOnLifted_27 rfl (lv_at hl 1 rfl) ?_
          refine g_get (C := RX2) (T := TX2) (N := 9) (v := .ref (xa x 1)) hx hb hts hinX2 hown hS hP (id := 0) (by decide) rfl rfl 1 (by decide) hw_f16 rfl dX2_liesOnLifted_28 ?_
          refine lv_iload_n hx hb dX2_liesOnLifted_31 rfl (lv_at hl 3 rfl) ?_
          refine g_aaldR (j := b) hx hb hS hP rfl (by omega) dX2_liesOnLifted_32 ?_
          refine lv_iload hx hb dX2_liesOnLifted_33 (lv_at hl 0 rfl) ?_
          refine lv_aload_n hx hb dX2_liesOnLifted_35 rfl (lv_at hl 1 rfl) ?_
          refine g_get (C := RX2) (T := TX2) (N := 9) (v := .ref (xa x 1)) hx hb hts hinX2 hown hS hP (id := 0) (by decide) rfl rfl 1 (by decide) hw_f16 rfl dX2_liesOnLifted_36 ?_
          refine lv_iload hx hb dX2_liesOnLifted_39 (lv_at hl 4 rfl) ?_
          refine g_aaldR (j := a) hx hb hS hP rfl (by omega) dX2_liesOnLifted_41 ?_
          refine lv_iload hx hb dX2_liesOnLifted_42 (lv_at hl 5 rfl) ?_
          refine g_call1 (va_runVN (As := [.int (nI k), .ref (xa x (11 + 3 * a)), .int (nI q)]) (rest := []) ⟨hx, hb, hml, hown, hts⟩ (c_X1_pieceCrosses l x M b k a q (by omega) (by omega) (by omega) (by omega)) ⟨va_cnB (host := RX2) 3 hts gX2_liesOnLifted_X1_pieceCrosses_n215 rfl rfl rfl (hS.2.2.2.2.1 _ (by decide +kernel)) hw_iX1 (by decide +kernel) ⟨Nat.le_of_ble_eq_true rfl, Nat.le_of_ble_eq_true rfl⟩, hw_imX1_pieceCrosses, hw_seX1_pieceCrosses⟩ (g_preV hS hZ hP hV [.int (nI k), .ref (xa x (11 + 3 * a)), .int (nI q)] (id := 11 + 3 * b) (by omega) (sh_r x _ (by omega)) rfl) rfl rfl hl.1 rfl (lv_room (Nat.le_of_ble_eq_true rfl)) dX2_liesOnLifted_44 ⟨Nat.le_of_ble_eq_true rfl, Nat.le_of_ble_eq_true rfl⟩) hV (fun H locs hP hV => ?_)
          refine h_if_eq_b (tgt := 52) hx hb dX2_liesOnLifted_47 (by decide) (fun c_3 => ?_) (fun c_3 => ?_)
          · -- taken
            refine lv_iinc (v := nI (k + 1)) (lv' := [(6, .int (nI (k + 1))), (0, .ref (xa x 0)), (1, .long L), (3, .int (nI b)), (4, .int (nI a)), (5, .int (nI q))]) hx hb dX2_liesOnLifted_52 hl (k := 0) rfl (nI_add (k) 1) (by decide) rfl (fun ls hl => ?_)
            refine lv_goto (tgt := 3) hx hb dX2_liesOnLifted_55 (by decide) ?_
            exact ih_3 (k + 1) (by omega) (by omega) (by exact anyB_f hany (by simp [rX, rY, c_1, c_2, c_3])) _ _ hP hV ls (lv_sub hl [0, 1, 2, 3, 4, 5] rfl)
          · -- on
            refine lv_iconst (v := 1) hx hb dX2_liesOnLifted_50 (by decide) ?_
            exact g_zret hx hb hr hlk hS hZ hP hV (Nat.le_of_ble_eq_true rfl) (Nat.le_of_ble_eq_true rfl) dX2_liesOnLifted_51 (by decide) (by have h9 : loO2 M pn L b a q = true := anyB_of (k := k) (by omega) (by simp [rX, rY, c_1, c_2, c_3]); rw [h9]; rfl) (by rfl)
  exact lp_3 ((pn b) - (0) + 1) (0) (by omega) (by omega) (by rfl) _ _ hP hV ls (lv_sub hl [0, 1, 2, 3, 4, 5] rfl)
set_option maxHeartbeats 4000000 in
set_option maxRecDepth 100000 in
theorem c_X2_lyingOn (l : Launch) (x : Cx) (M : Nat → Nat → Int32) (cn gn dn : Nat) (pn : Nat → Nat) (L : Int64) (b a : Nat) (hO : OkO M cn gn dn pn) (hb8 : b < cn) (ha : a < cn) : Met l yX2_lyingOn wsX2_lyingOn ({ frames := 5, cells := 0, slots := 0, locals := 118 }) (gP x M [.ref (xa x 0), .long L, .int (nI b), .int (nI a)]) (gQ x (some (.long (lyO M pn L b a (pn a)))) M) 0 0 (gF x) := by
  refine g_met (cc := cX2_lyingOn) (maxL := 8) (ret := some .long) (by decide) rfl (Nat.le_of_ble_eq_true rfl) ?_
  intro p e s m below meth c hx hb hr hml hts hown hlk hS hZ hP hV ls hl
  have hl : lv_has ls 8 [(0, .ref (xa x 0)), (1, .long L), (3, .int (nI b)), (4, .int (nI a))] := hl
  have hw_f16 := hts (.fieldLink RX2 16 "CableOffice" "routes" "[LCableOffice$Route;") (by decide +kernel)
  have hinX2 : ∀ w ∈ wsX20, w ∈ wsX2_lyingOn := by decide +kernel
  have hw_iX1 := hts (.initialized RX1) (by decide +kernel)
  have hw_imX1_pieces := hts (.instanceMethod yX1_pieces) (by decide +kernel)
  have hw_seX1_pieces := hts (.selects RX1 yX1_pieces yX1_pieces) (by decide +kernel)
  have hc8 := hO.c8
  have hg5 := hO.g5
  have hd8 := hO.d8
  have h7b := hO.p7 hb8
  have h7a := hO.p7 ha
  refine lv_lconst (v := 0) hx hb dX2_lyingOn_0 (by decide) ?_
  refine lv_lstore (lv' := [(5, .long 0), (0, .ref (xa x 0)), (1, .long L), (3, .int (nI b)), (4, .int (nI a))]) hx hb dX2_lyingOn_1 hl (by decide) rfl (fun ls hl => ?_)
  refine lv_iconst (v := 0) hx hb dX2_lyingOn_3 (by decide) ?_
  refine lv_istore (lv' := [(7, .int 0), (5, .long 0), (0, .ref (xa x 0)), (1, .long L), (3, .int (nI b)), (4, .int (nI a))]) hx hb dX2_lyingOn_4 hl (by decide) rfl (fun ls hl => ?_)
  have lp_6 : ∀ (nn q : Nat), (pn a) - q < nn → q ≤ (pn a) → ∀ (H : Heap) (locs : List Loc), va_P (xD x) vwCl (wAll x M) H → va_S (gF x) s.heap H locs → ∀ ls : Array Slot, lv_has ls 8 [(7, .int (nI q)), (5, .long (lyO M pn L b a q)), (0, .ref (xa x 0)), (1, .long L), (3, .int (nI b)), (4, .int (nI a))] → W p l e ({ frames := 5, cells := 0, slots := 0, locals := 118 }) s m ([.ref (xa x 0), .long L, .int (nI b), .int (nI a)] : List Value).toArray below meth c H locs 0 0 (MQ below (gQ x (some (.long (lyO M pn L b a (pn a)))) M) ([.ref (xa x 0), .long L, .int (nI b), .int (nI a)] : List Value).toArray s 0 0 (gF x)) (F0 m 6 ls []) := by
    intro nn
    induction nn with
    | zero => intro q hz; exact absurd hz (Nat.not_lt_zero _)
    | succ nn ih_6 =>
      intro q hf_6 hk_6  H locs hP hV ls hl
      refine lv_iload hx hb dX2_lyingOn_6 (lv_at hl 0 rfl) ?_
      refine lv_aload_n hx hb dX2_lyingOn_8 rfl (lv_at hl 2 rfl) ?_
      refine g_get (C := RX2) (T := TX2) (N := 9) (v := .ref (xa x 1)) hx hb hts hinX2 hown hS hP (id := 0) (by decide) rfl rfl 1 (by decide) hw_f16 rfl dX2_lyingOn_9 ?_
      refine lv_iload hx hb dX2_lyingOn_12 (lv_at hl 5 rfl) ?_
      refine g_aaldR (j := a) hx hb hS hP rfl (by omega) dX2_lyingOn_14 ?_
      refine g_call1 (va_runVN (As := []) (rest := [.int (nI q)]) ⟨hx, hb, hml, hown, hts⟩ (c_X1_pieces l x M a (pn a) (by omega) (hO.p (by omega))) ⟨va_cnB (host := RX2) 0 hts gX2_lyingOn_X1_pieces_n200 rfl rfl rfl (hS.2.2.2.2.1 _ (by decide +kernel)) hw_iX1 (by decide +kernel) ⟨Nat.le_of_ble_eq_true rfl, Nat.le_of_ble_eq_true rfl⟩, hw_imX1_pieces, hw_seX1_pieces⟩ (g_preV hS hZ hP hV [] (id := 11 + 3 * a) (by omega) (sh_r x _ (by omega)) rfl) rfl rfl hl.1 rfl (lv_room (Nat.le_of_ble_eq_true rfl)) dX2_lyingOn_15 ⟨Nat.le_of_ble_eq_true rfl, Nat.le_of_ble_eq_true rfl⟩) hV (fun H locs hP hV => ?_)
      refine h_icmp_ge_n (a := q) (b := pn a) (tgt := 52) hx hb (by omega) (by omega) dX2_lyingOn_18 (by decide) (fun c_1 => ?_) (fun c_1 => ?_)
      · -- taken
        refine lv_lload hx hb dX2_lyingOn_52 (lv_at hl 1 rfl) ?_
        exact g_lret hx hb hr hlk hS hZ hP hV (Nat.le_of_ble_eq_true rfl) (Nat.le_of_ble_eq_true rfl) dX2_lyingOn_54 (by rw [show q = pn a by omega]) (by rfl)
      · -- on
        refine lv_aload_n hx hb dX2_lyingOn_21 rfl (lv_at hl 2 rfl) ?_
        refine lv_lload_n hx hb dX2_lyingOn_22 rfl (lv_at hl 3 rfl) ?_
        refine lv_iload_n hx hb dX2_lyingOn_23 rfl (lv_at hl 4 rfl) ?_
        refine lv_iload hx hb dX2_lyingOn_24 (lv_at hl 5 rfl) ?_
        refine lv_iload hx hb dX2_lyingOn_26 (lv_at hl 0 rfl) ?_
        refine g_call1 (va_runV (As := [.long L, .int (nI b), .int (nI a), .int (nI q)]) (rest := []) ⟨hx, hb, hml, hown, hts⟩ (c_X2_liesOnLifted l x M cn gn dn pn L b a q hO (by omega) (by omega) (by omega)) (cwV 4 hts gX2_lyingOn_X2_liesOnLifted rfl rfl rfl (by decide +kernel) ⟨Nat.le_of_ble_eq_true rfl, Nat.le_of_ble_eq_true rfl⟩) (g_preV hS hZ hP hV [.long L, .int (nI b), .int (nI a), .int (nI q)] (id := 0) (by decide) rfl rfl) rfl rfl hl.1 rfl (lv_room (Nat.le_of_ble_eq_true rfl)) dX2_lyingOn_28 ⟨Nat.le_of_ble_eq_true rfl, Nat.le_of_ble_eq_true rfl⟩) hV (fun H locs hP hV => ?_)
        refine h_if_eq_b (tgt := 46) hx hb dX2_lyingOn_31 (by decide) (fun c_2 => ?_) (fun c_2 => ?_)
        · -- taken
          refine lv_iinc (v := nI (q + 1)) (lv' := [(7, .int (nI (q + 1))), (5, .long (lyO M pn L b a q)), (0, .ref (xa x 0)), (1, .long L), (3, .int (nI b)), (4, .int (nI a))]) hx hb dX2_lyingOn_46 hl (k := 0) rfl (nI_add (q) 1) (by decide) rfl (fun ls hl => ?_)
          refine lv_goto (tgt := 6) hx hb dX2_lyingOn_49 (by decide) ?_
          exact ih_6 (q + 1) (by omega) (by omega)  _ _ hP hV ls (lv_sub hl [0, 1, 2, 3, 4, 5] (show ([(7, .int (nI (q + 1))), (5, .long (lyO M pn L b a q)), (0, .ref (xa x 0)), (1, .long L), (3, .int (nI b)), (4, .int (nI a))] : List (Nat × Value)) = [(7, .int (nI (q + 1))), (5, .long (lyO M pn L b a (q + 1))), (0, .ref (xa x 0)), (1, .long L), (3, .int (nI b)), (4, .int (nI a))] from by simp [lyO, c_1, c_2]))
        · -- on
          refine lv_lload hx hb dX2_lyingOn_34 (lv_at hl 1 rfl) ?_
          refine lv_iload hx hb dX2_lyingOn_36 (lv_at hl 5 rfl) ?_
          refine lv_iload hx hb dX2_lyingOn_38 (lv_at hl 0 rfl) ?_
          refine g_call1 (va_runS (As := [.int (nI a), .int (nI q)]) (rest := [.long (lyO M pn L b a q)]) ⟨hx, hb, hml, hown, hts⟩ (c_X2_bitOf l x M a q) (va_cwS 2 hts gX2_lyingOn_X2_bitOf rfl rfl rfl (by decide +kernel) ⟨Nat.le_of_ble_eq_true rfl, Nat.le_of_ble_eq_true rfl⟩) (g_preS hS hZ hP hV [.int (nI a), .int (nI q)]) rfl rfl hl.1 rfl (lv_room (Nat.le_of_ble_eq_true rfl)) dX2_lyingOn_40 ⟨Nat.le_of_ble_eq_true rfl, Nat.le_of_ble_eq_true rfl⟩) hV (fun H locs hP hV => ?_)
          refine lv_lor hx hb dX2_lyingOn_43 ?_
          refine lv_lstore (lv' := [(5, .long ((lyO M pn L b a q) ||| (bitL (8 * a + q)))), (7, .int (nI q)), (0, .ref (xa x 0)), (1, .long L), (3, .int (nI b)), (4, .int (nI a))]) hx hb dX2_lyingOn_44 hl (by decide) rfl (fun ls hl => ?_)
          refine lv_iinc (v := nI (q + 1)) (lv' := [(7, .int (nI (q + 1))), (5, .long ((lyO M pn L b a q) ||| (bitL (8 * a + q)))), (0, .ref (xa x 0)), (1, .long L), (3, .int (nI b)), (4, .int (nI a))]) hx hb dX2_lyingOn_46 hl (k := 1) rfl (nI_add (q) 1) (by decide) rfl (fun ls hl => ?_)
          refine lv_goto (tgt := 6) hx hb dX2_lyingOn_49 (by decide) ?_
          exact ih_6 (q + 1) (by omega) (by omega)  _ _ hP hV ls (lv_sub hl [0, 1, 2, 3, 4, 5] (show ([(7, .int (nI (q + 1))), (5, .long ((lyO M pn L b a q) ||| (bitL (8 * a + q)))), (0, .ref (xa x 0)), (1, .long L), (3, .int (nI b)), (4, .int (nI a))] : List (Nat × Value)) = [(7, .int (nI (q + 1))), (5, .long (lyO M pn L b a (q + 1))), (0, .ref (xa x 0)), (1, .long L), (3, .int (nI b)), (4, .int (nI a))] from by simp [lyO, c_1, c_2]))
  exact lp_6 ((pn a) - (0) + 1) (0) (by omega) (by omega)  _ _ hP hV ls (lv_sub hl [0, 1, 2, 3, 4, 5] (show ([(7, .int 0), (5, .long 0), (0, .ref (xa x 0)), (1, .long L), (3, .int (nI b)), (4, .int (nI a))] : List (Nat × Value)) = [(7, .int 0), (5, .long (lyO M pn L b a 0)), (0, .ref (xa x 0)), (1, .long L), (3, .int (nI b)), (4, .int (nI a))] from by rfl))
set_option maxHeartbeats 4000000 in
set_option maxRecDepth 100000 in
theorem c_X2_liftedWith (l : Launch) (x : Cx) (M : Nat → Nat → Int32) (cn gn dn : Nat) (pn : Nat → Nat) (cb q : Nat) (hO : OkO M cn gn dn pn) (hcb : cb < cn) : Met l yX2_liftedWith wsX2_liftedWith ({ frames := 6, cells := 0, slots := 0, locals := 145 }) (gP x M [.ref (xa x 0), .int (nI cb), .int (nI q)]) (gQ x (some (.long (lwA M pn cb q (cn - (cb + 1))))) M) 0 0 (gF x) := by
  refine g_met (cc := cX2_liftedWith) (maxL := 7) (ret := some .long) (by decide) rfl (Nat.le_of_ble_eq_true rfl) ?_
  intro p e s m below meth c hx hb hr hml hts hown hlk hS hZ hP hV ls hl
  have hl : lv_has ls 7 [(0, .ref (xa x 0)), (1, .int (nI cb)), (2, .int (nI q))] := hl
  have hw_f20 := hts (.fieldLink RX2 20 "CableOffice" "cableCount" "I") (by decide +kernel)
  have hinX2 : ∀ w ∈ wsX20, w ∈ wsX2_liftedWith := by decide +kernel
  have hc8 := hO.c8
  have hg5 := hO.g5
  have hd8 := hO.d8
  refine lv_iload_n hx hb dX2_liftedWith_0 rfl (lv_at hl 1 rfl) ?_
  refine lv_iload_n hx hb dX2_liftedWith_1 rfl (lv_at hl 2 rfl) ?_
  refine g_call1 (va_runS (As := [.int (nI cb), .int (nI q)]) (rest := []) ⟨hx, hb, hml, hown, hts⟩ (c_X2_bitOf l x M cb q) (va_cwS 2 hts gX2_liftedWith_X2_bitOf rfl rfl rfl (by decide +kernel) ⟨Nat.le_of_ble_eq_true rfl, Nat.le_of_ble_eq_true rfl⟩) (g_preS hS hZ hP hV [.int (nI cb), .int (nI q)]) rfl rfl hl.1 rfl (lv_room (Nat.le_of_ble_eq_true rfl)) dX2_liftedWith_2 ⟨Nat.le_of_ble_eq_true rfl, Nat.le_of_ble_eq_true rfl⟩) hV (fun H locs hP hV => ?_)
  refine lv_lstore_n (lv' := [(3, .long (bitL (8 * cb + q))), (0, .ref (xa x 0)), (1, .int (nI cb)), (2, .int (nI q))]) hx hb dX2_liftedWith_5 rfl hl (by decide) rfl (fun ls hl => ?_)
  refine lv_iload_n hx hb dX2_liftedWith_6 rfl (lv_at hl 2 rfl) ?_
  refine lv_iconst (v := 1) hx hb dX2_liftedWith_7 (by decide) ?_
  refine h_iadd (v := nI (cb + 1)) hx hb dX2_liftedWith_8 (nI_add (cb) (1)) ?_
  refine lv_istore (lv' := [(5, .int (nI (cb + 1))), (3, .long (bitL (8 * cb + q))), (0, .ref (xa x 0)), (1, .int (nI cb)), (2, .int (nI q))]) hx hb dX2_liftedWith_9 hl (by decide) rfl (fun ls hl => ?_)
  have lp_11 : ∀ (nn t : Nat), (cn - (cb + 1)) - t < nn → t ≤ (cn - (cb + 1)) → ∀ (H : Heap) (locs : List Loc), va_P (xD x) vwCl (wAll x M) H → va_S (gF x) s.heap H locs → ∀ ls : Array Slot, lv_has ls 7 [(5, .int (nI (cb + 1 + t))), (3, .long (lwA M pn cb q t)), (0, .ref (xa x 0)), (1, .int (nI cb))] → W p l e ({ frames := 6, cells := 0, slots := 0, locals := 145 }) s m ([.ref (xa x 0), .int (nI cb), .int (nI q)] : List Value).toArray below meth c H locs 0 0 (MQ below (gQ x (some (.long (lwA M pn cb q (cn - (cb + 1))))) M) ([.ref (xa x 0), .int (nI cb), .int (nI q)] : List Value).toArray s 0 0 (gF x)) (F0 m 11 ls []) := by
    intro nn
    induction nn with
    | zero => intro t hz; exact absurd hz (Nat.not_lt_zero _)
    | succ nn ih_11 =>
      intro t hf_11 hk_11  H locs hP hV ls hl
      refine lv_iload hx hb dX2_liftedWith_11 (lv_at hl 0 rfl) ?_
      refine lv_aload_n hx hb dX2_liftedWith_13 rfl (lv_at hl 2 rfl) ?_
      refine g_get (C := RX2) (T := TX2) (N := 9) (v := .int (nI cn)) hx hb hts hinX2 hown hS hP (id := 0) (by decide) rfl rfl 2 (by decide) hw_f20 (congrArg (fun z => some (Value.int z)) hO.c) dX2_liftedWith_14 ?_
      refine h_icmp_ge_n (a := cb + 1 + t) (b := cn) (tgt := 54) hx hb (by omega) (by omega) dX2_liftedWith_17 (by decide) (fun c_1 => ?_) (fun c_1 => ?_)
      · -- taken
        refine lv_lload_n hx hb dX2_liftedWith_54 rfl (lv_at hl 1 rfl) ?_
        exact g_lret hx hb hr hlk hS hZ hP hV (Nat.le_of_ble_eq_true rfl) (Nat.le_of_ble_eq_true rfl) dX2_liftedWith_55 (by rw [show t = cn - (cb + 1) by omega]) (by rfl)
      · -- on
        refine lv_iload_n hx hb dX2_liftedWith_20 rfl (lv_at hl 3 rfl) ?_
        refine lv_istore (lv' := [(6, .int (nI cb)), (5, .int (nI (cb + 1 + t))), (3, .long (lwA M pn cb q t)), (0, .ref (xa x 0)), (1, .int (nI cb))]) hx hb dX2_liftedWith_21 hl (by decide) rfl (fun ls hl => ?_)
        have lp_23 : ∀ (nn j : Nat), (t + 1) - j < nn → j ≤ (t + 1) → ∀ (H : Heap) (locs : List Loc), va_P (xD x) vwCl (wAll x M) H → va_S (gF x) s.heap H locs → ∀ ls : Array Slot, lv_has ls 7 [(6, .int (nI (cb + j))), (5, .int (nI (cb + 1 + t))), (3, .long (lwB M pn cb (cb + 1 + t) (lwA M pn cb q t) j)), (0, .ref (xa x 0)), (1, .int (nI cb))] → W p l e ({ frames := 6, cells := 0, slots := 0, locals := 145 }) s m ([.ref (xa x 0), .int (nI cb), .int (nI q)] : List Value).toArray below meth c H locs 0 0 (MQ below (gQ x (some (.long (lwA M pn cb q (cn - (cb + 1))))) M) ([.ref (xa x 0), .int (nI cb), .int (nI q)] : List Value).toArray s 0 0 (gF x)) (F0 m 23 ls []) := by
          intro nn
          induction nn with
          | zero => intro j hz; exact absurd hz (Nat.not_lt_zero _)
          | succ nn ih_23 =>
            intro j hf_23 hk_23  H locs hP hV ls hl
            refine lv_iload hx hb dX2_liftedWith_23 (lv_at hl 0 rfl) ?_
            refine lv_iload hx hb dX2_liftedWith_25 (lv_at hl 1 rfl) ?_
            refine h_icmp_ge_n (a := cb + j) (b := cb + 1 + t) (tgt := 48) hx hb (by omega) (by omega) dX2_liftedWith_27 (by decide) (fun c_2 => ?_) (fun c_2 => ?_)
            · -- taken
              refine lv_iinc (v := nI (cb + 1 + t + 1)) (lv' := [(5, .int (nI (cb + 1 + t + 1))), (6, .int (nI (cb + j))), (3, .long (lwB M pn cb (cb + 1 + t) (lwA M pn cb q t) j)), (0, .ref (xa x 0)), (1, .int (nI cb))]) hx hb dX2_liftedWith_48 hl (k := 1) rfl (nI_add (cb + 1 + t) 1) (by decide) rfl (fun ls hl => ?_)
              refine lv_goto (tgt := 11) hx hb dX2_liftedWith_51 (by decide) ?_
              exact ih_11 (t + 1) (by omega) (by omega)  _ _ hP hV ls (lv_sub hl [0, 2, 3, 4] (show ([(5, .int (nI (cb + 1 + t + 1))), (3, .long (lwB M pn cb (cb + 1 + t) (lwA M pn cb q t) j)), (0, .ref (xa x 0)), (1, .int (nI cb))] : List (Nat × Value)) = [(5, .int (nI (cb + 1 + (t + 1)))), (3, .long (lwA M pn cb q (t + 1))), (0, .ref (xa x 0)), (1, .int (nI cb))] from by rw [show j = t + 1 by omega]; rfl))
            · -- on
              refine lv_lload_n hx hb dX2_liftedWith_30 rfl (lv_at hl 2 rfl) ?_
              refine lv_aload_n hx hb dX2_liftedWith_31 rfl (lv_at hl 3 rfl) ?_
              refine lv_lload_n hx hb dX2_liftedWith_32 rfl (lv_at hl 2 rfl) ?_
              refine lv_iload hx hb dX2_liftedWith_33 (lv_at hl 0 rfl) ?_
              refine lv_iload hx hb dX2_liftedWith_35 (lv_at hl 1 rfl) ?_
              refine g_call1 (va_runV (As := [.long (lwB M pn cb (cb + 1 + t) (lwA M pn cb q t) j), .int (nI (cb + j)), .int (nI (cb + 1 + t))]) (rest := [.long (lwB M pn cb (cb + 1 + t) (lwA M pn cb q t) j)]) ⟨hx, hb, hml, hown, hts⟩ (c_X2_lyingOn l x M cn gn dn pn (lwB M pn cb (cb + 1 + t) (lwA M pn cb q t) j) (cb + j) (cb + 1 + t) hO (by omega) (by omega)) (cwV 3 hts gX2_liftedWith_X2_lyingOn rfl rfl rfl (by decide +kernel) ⟨Nat.le_of_ble_eq_true rfl, Nat.le_of_ble_eq_true rfl⟩) (g_preV hS hZ hP hV [.long (lwB M pn cb (cb + 1 + t) (lwA M pn cb q t) j), .int (nI (cb + j)), .int (nI (cb + 1 + t))] (id := 0) (by decide) rfl rfl) rfl rfl hl.1 rfl (lv_room (Nat.le_of_ble_eq_true rfl)) dX2_liftedWith_37 ⟨Nat.le_of_ble_eq_true rfl, Nat.le_of_ble_eq_true rfl⟩) hV (fun H locs hP hV => ?_)
              refine lv_lor hx hb dX2_liftedWith_40 ?_
              refine lv_lstore_n (lv' := [(3, .long ((lwB M pn cb (cb + 1 + t) (lwA M pn cb q t) j) ||| (lyO M pn (lwB M pn cb (cb + 1 + t) (lwA M pn cb q t) j) (cb + j) (cb + 1 + t) (pn (cb + 1 + t))))), (6, .int (nI (cb + j))), (5, .int (nI (cb + 1 + t))), (0, .ref (xa x 0)), (1, .int (nI cb))]) hx hb dX2_liftedWith_41 rfl hl (by decide) rfl (fun ls hl => ?_)
              refine lv_iinc (v := nI (cb + j + 1)) (lv' := [(6, .int (nI (cb + j + 1))), (3, .long ((lwB M pn cb (cb + 1 + t) (lwA M pn cb q t) j) ||| (lyO M pn (lwB M pn cb (cb + 1 + t) (lwA M pn cb q t) j) (cb + j) (cb + 1 + t) (pn (cb + 1 + t))))), (5, .int (nI (cb + 1 + t))), (0, .ref (xa x 0)), (1, .int (nI cb))]) hx hb dX2_liftedWith_42 hl (k := 1) rfl (nI_add (cb + j) 1) (by decide) rfl (fun ls hl => ?_)
              refine lv_goto (tgt := 23) hx hb dX2_liftedWith_45 (by decide) ?_
              exact ih_23 (j + 1) (by omega) (by omega)  _ _ hP hV ls (lv_sub hl [0, 2, 1, 3, 4] (show ([(6, .int (nI (cb + j + 1))), (5, .int (nI (cb + 1 + t))), (3, .long ((lwB M pn cb (cb + 1 + t) (lwA M pn cb q t) j) ||| (lyO M pn (lwB M pn cb (cb + 1 + t) (lwA M pn cb q t) j) (cb + j) (cb + 1 + t) (pn (cb + 1 + t))))), (0, .ref (xa x 0)), (1, .int (nI cb))] : List (Nat × Value)) = [(6, .int (nI (cb + (j + 1)))), (5, .int (nI (cb + 1 + t))), (3, .long (lwB M pn cb (cb + 1 + t) (lwA M pn cb q t) (j + 1))), (0, .ref (xa x 0)), (1, .int (nI cb))] from by rfl))
        exact lp_23 ((t + 1) - (0) + 1) (0) (by omega) (by omega)  _ _ hP hV ls (lv_sub hl [0, 1, 2, 3, 4] (show ([(6, .int (nI cb)), (5, .int (nI (cb + 1 + t))), (3, .long (lwA M pn cb q t)), (0, .ref (xa x 0)), (1, .int (nI cb))] : List (Nat × Value)) = [(6, .int (nI cb)), (5, .int (nI (cb + 1 + t))), (3, .long (lwB M pn cb (cb + 1 + t) (lwA M pn cb q t) 0)), (0, .ref (xa x 0)), (1, .int (nI cb))] from by rfl))
  exact lp_11 ((cn - (cb + 1)) - (0) + 1) (0) (by omega) (by omega)  _ _ hP hV ls (lv_sub hl [0, 1, 2, 3] (show ([(5, .int (nI (cb + 1))), (3, .long (bitL (8 * cb + q))), (0, .ref (xa x 0)), (1, .int (nI cb))] : List (Nat × Value)) = [(5, .int (nI (cb + 1))), (3, .long (lwA M pn cb q 0)), (0, .ref (xa x 0)), (1, .int (nI cb))] from by rfl))
set_option maxHeartbeats 4000000 in
set_option maxRecDepth 100000 in
theorem c_X2_isPossible (l : Launch) (x : Cx) (M : Nat → Nat → Int32) (cn gn dn : Nat) (pn : Nat → Nat) (L : Int64) (hO : OkO M cn gn dn pn) : Met l yX2_isPossible wsX2_isPossible ({ frames := 6, cells := 0, slots := 0, locals := 145 }) (gP x M [.ref (xa x 0), .long L]) (gQ x (some (.int (bI (psO M pn L cn)))) M) 0 0 (gF x) := by
  refine g_met (cc := cX2_isPossible) (maxL := 5) (ret := some .boolean) (by decide) rfl (Nat.le_of_ble_eq_true rfl) ?_
  intro p e s m below meth c hx hb hr hml hts hown hlk hS hZ hP hV ls hl
  have hl : lv_has ls 5 [(0, .ref (xa x 0)), (1, .long L)] := hl
  have hw_f20 := hts (.fieldLink RX2 20 "CableOffice" "cableCount" "I") (by decide +kernel)
  have hinX2 : ∀ w ∈ wsX20, w ∈ wsX2_isPossible := by decide +kernel
  have hw_f31 := hts (.fieldLink RX2 31 "CableOffice" "agreed" "[Z") (by decide +kernel)
  have hc8 := hO.c8
  have hg5 := hO.g5
  have hd8 := hO.d8
  refine lv_iconst (v := 0) hx hb dX2_isPossible_0 (by decide) ?_
  refine lv_istore_n (lv' := [(3, .int 0), (0, .ref (xa x 0)), (1, .long L)]) hx hb dX2_isPossible_1 rfl hl (by decide) rfl (fun ls hl => ?_)
  have lp_2 : ∀ (nn k : Nat), cn - k < nn → k ≤ cn → anyB (fun a => anyB (badO M pn L a) a) k = false → ∀ (H : Heap) (locs : List Loc), va_P (xD x) vwCl (wAll x M) H → va_S (gF x) s.heap H locs → ∀ ls : Array Slot, lv_has ls 5 [(3, .int (nI k)), (0, .ref (xa x 0)), (1, .long L)] → W p l e ({ frames := 6, cells := 0, slots := 0, locals := 145 }) s m ([.ref (xa x 0), .long L] : List Value).toArray below meth c H locs 0 0 (MQ below (gQ x (some (.int (bI (psO M pn L cn)))) M) ([.ref (xa x 0), .long L] : List Value).toArray s 0 0 (gF x)) (F0 m 2 ls []) := by
    intro nn
    induction nn with
    | zero => intro k hz; exact absurd hz (Nat.not_lt_zero _)
    | succ nn ih_2 =>
      intro k hf_2 hk_2 hA H locs hP hV ls hl
      refine lv_iload_n hx hb dX2_isPossible_2 rfl (lv_at hl 0 rfl) ?_
      refine lv_aload_n hx hb dX2_isPossible_3 rfl (lv_at hl 1 rfl) ?_
      refine g_get (C := RX2) (T := TX2) (N := 9) (v := .int (nI cn)) hx hb hts hinX2 hown hS hP (id := 0) (by decide) rfl rfl 2 (by decide) hw_f20 (congrArg (fun z => some (Value.int z)) hO.c) dX2_isPossible_4 ?_
      refine h_icmp_ge_n (a := k) (b := cn) (tgt := 60) hx hb (by omega) (by omega) dX2_isPossible_7 (by decide) (fun c_1 => ?_) (fun c_1 => ?_)
      · -- taken
        refine lv_iconst (v := 1) hx hb dX2_isPossible_60 (by decide) ?_
        exact g_zret hx hb hr hlk hS hZ hP hV (Nat.le_of_ble_eq_true rfl) (Nat.le_of_ble_eq_true rfl) dX2_isPossible_61 (by decide) (by have h9 : psO M pn L cn = true := by { have h8 : anyB (fun a => anyB (badO M pn L a) a) cn = false := (by rw [show k = cn by omega] at hA; exact hA); simp [psO, h8] }; rw [h9]; rfl) (by rfl)
      · -- on
        refine lv_iconst (v := 0) hx hb dX2_isPossible_10 (by decide) ?_
        refine lv_istore (lv' := [(4, .int 0), (3, .int (nI k)), (0, .ref (xa x 0)), (1, .long L)]) hx hb dX2_isPossible_11 hl (by decide) rfl (fun ls hl => ?_)
        have lp_13 : ∀ (nn t : Nat), k - t < nn → t ≤ k → anyB (badO M pn L k) t = false → ∀ (H : Heap) (locs : List Loc), va_P (xD x) vwCl (wAll x M) H → va_S (gF x) s.heap H locs → ∀ ls : Array Slot, lv_has ls 5 [(4, .int (nI t)), (3, .int (nI k)), (0, .ref (xa x 0)), (1, .long L)] → W p l e ({ frames := 6, cells := 0, slots := 0, locals := 145 }) s m ([.ref (xa x 0), .long L] : List Value).toArray below meth c H locs 0 0 (MQ below (gQ x (some (.int (bI (psO M pn L cn)))) M) ([.ref (xa x 0), .long L] : List Value).toArray s 0 0 (gF x)) (F0 m 13 ls []) := by
          intro nn
          induction nn with
          | zero => intro t hz; exact absurd hz (Nat.not_lt_zero _)
          | succ nn ih_13 =>
            intro t hf_13 hk_13 hB H locs hP hV ls hl
            refine lv_iload hx hb dX2_isPossible_13 (lv_at hl 0 rfl) ?_
            refine lv_iload_n hx hb dX2_isPossible_15 rfl (lv_at hl 1 rfl) ?_
            refine h_icmp_ge_n (a := t) (b := k) (tgt := 54) hx hb (by omega) (by omega) dX2_isPossible_16 (by decide) (fun c_2 => ?_) (fun c_2 => ?_)
            · -- taken
              refine lv_iinc (v := nI (k + 1)) (lv' := [(3, .int (nI (k + 1))), (4, .int (nI t)), (0, .ref (xa x 0)), (1, .long L)]) hx hb dX2_isPossible_54 hl (k := 1) rfl (nI_add (k) 1) (by decide) rfl (fun ls hl => ?_)
              refine lv_goto (tgt := 2) hx hb dX2_isPossible_57 (by decide) ?_
              exact ih_2 (k + 1) (by omega) (by omega) (by exact anyB_f hA (by rw [show t = k by omega] at hB; exact hB)) _ _ hP hV ls (lv_sub hl [0, 2, 3] rfl)
            · -- on
              have hp64 := pr_lt (show t < 8 by omega) (show k < 8 by omega)
              refine lv_aload_n hx hb dX2_isPossible_19 rfl (lv_at hl 2 rfl) ?_
              refine g_get (C := RX2) (T := TX2) (N := 9) (v := .ref (xa x 4)) hx hb hts hinX2 hown hS hP (id := 0) (by decide) rfl rfl 5 (by decide) hw_f31 rfl dX2_isPossible_20 ?_
              refine lv_iload hx hb dX2_isPossible_23 (lv_at hl 0 rfl) ?_
              refine lv_iload_n hx hb dX2_isPossible_25 rfl (lv_at hl 1 rfl) ?_
              refine g_call1 (va_runS (As := [.int (nI t), .int (nI k)]) (rest := [.ref (xa x 4)]) ⟨hx, hb, hml, hown, hts⟩ (c_X2_pairOf l x M t k (by omega) (by omega)) (va_cwS 2 hts gX2_isPossible_X2_pairOf rfl rfl rfl (by decide +kernel) ⟨Nat.le_of_ble_eq_true rfl, Nat.le_of_ble_eq_true rfl⟩) (g_preS hS hZ hP hV [.int (nI t), .int (nI k)]) rfl rfl hl.1 rfl (lv_room (Nat.le_of_ble_eq_true rfl)) dX2_isPossible_26 ⟨Nat.le_of_ble_eq_true rfl, Nat.le_of_ble_eq_true rfl⟩) hV (fun H locs hP hV => ?_)
              refine g_zald (j := pr t k) hx hb hS hP (id := 4) (by omega) ((fun _ => rfl) _) (by decide) rfl (by omega) dX2_isPossible_29 ?_
              refine lv_if_ne (tgt := 48) hx hb dX2_isPossible_30 (by decide) (fun c_3 => ?_) (fun c_3 => ?_)
              · -- taken
                refine lv_iinc (v := nI (t + 1)) (lv' := [(4, .int (nI (t + 1))), (3, .int (nI k)), (0, .ref (xa x 0)), (1, .long L)]) hx hb dX2_isPossible_48 hl (k := 0) rfl (nI_add (t) 1) (by decide) rfl (fun ls hl => ?_)
                refine lv_goto (tgt := 13) hx hb dX2_isPossible_51 (by decide) ?_
                exact ih_13 (t + 1) (by omega) (by omega) (by exact anyB_f hB (by simp [badO, c_1, c_2, c_3])) _ _ hP hV ls (lv_sub hl [0, 1, 2, 3] rfl)
              · -- on
                refine lv_aload_n hx hb dX2_isPossible_33 rfl (lv_at hl 2 rfl) ?_
                refine lv_lload_n hx hb dX2_isPossible_34 rfl (lv_at hl 3 rfl) ?_
                refine lv_iload hx hb dX2_isPossible_35 (lv_at hl 0 rfl) ?_
                refine lv_iload_n hx hb dX2_isPossible_37 rfl (lv_at hl 1 rfl) ?_
                refine g_call1 (va_runV (As := [.long L, .int (nI t), .int (nI k)]) (rest := []) ⟨hx, hb, hml, hown, hts⟩ (c_X2_lyingOn l x M cn gn dn pn L t k hO (by omega) (by omega)) (cwV 3 hts gX2_isPossible_X2_lyingOn rfl rfl rfl (by decide +kernel) ⟨Nat.le_of_ble_eq_true rfl, Nat.le_of_ble_eq_true rfl⟩) (g_preV hS hZ hP hV [.long L, .int (nI t), .int (nI k)] (id := 0) (by decide) rfl rfl) rfl rfl hl.1 rfl (lv_room (Nat.le_of_ble_eq_true rfl)) dX2_isPossible_38 ⟨Nat.le_of_ble_eq_true rfl, Nat.le_of_ble_eq_true rfl⟩) hV (fun H locs hP hV => ?_)
                refine lv_lconst (v := 0) hx hb dX2_isPossible_41 (by decide) ?_
                refine W.lcmp hx hb dX2_isPossible_42 ?_
                refine lv_if_eq (tgt := 48) hx hb dX2_isPossible_43 (by decide) (fun c_4 => ?_) (fun c_4 => ?_)
                · -- taken
                  refine lv_iinc (v := nI (t + 1)) (lv' := [(4, .int (nI (t + 1))), (3, .int (nI k)), (0, .ref (xa x 0)), (1, .long L)]) hx hb dX2_isPossible_48 hl (k := 0) rfl (nI_add (t) 1) (by decide) rfl (fun ls hl => ?_)
                  refine lv_goto (tgt := 13) hx hb dX2_isPossible_51 (by decide) ?_
                  exact ih_13 (t + 1) (by omega) (by omega) (by exact anyB_f hB (by simp [badO, c_1, c_2, c_3, c_4])) _ _ hP hV ls (lv_sub hl [0, 1, 2, 3] rfl)
                · -- on
                  refine lv_iconst (v := 0) hx hb dX2_isPossible_46 (by decide) ?_
                  exact g_zret hx hb hr hlk hS hZ hP hV (Nat.le_of_ble_eq_true rfl) (Nat.le_of_ble_eq_true rfl) dX2_isPossible_47 (by decide) (by have h9 : psO M pn L cn = false := by { have h8 : anyB (fun a => anyB (badO M pn L a) a) cn = true := anyB_of (k := k) (by omega) (anyB_of (k := t) (by omega) (by simp [badO, c_1, c_2, c_3, c_4])); simp [psO, h8] }; rw [h9]; rfl) (by rfl)
        exact lp_13 (k - (0) + 1) (0) (by omega) (by omega) (by rfl) _ _ hP hV ls (lv_sub hl [0, 1, 2, 3] rfl)
  exact lp_2 (cn - (0) + 1) (0) (by omega) (by omega) (by rfl) _ _ hP hV ls (lv_sub hl [0, 1, 2] rfl)
set_option maxHeartbeats 4000000 in
set_option maxRecDepth 100000 in
theorem c_X2_isMetByAny (l : Launch) (x : Cx) (M : Nat → Nat → Int32) (cn gn dn : Nat) (pn : Nat → Nat) (L : Int64) (g : Nat) (hO : OkO M cn gn dn pn) (hg : g < 5) : Met l yX2_isMetByAny wsX2_isMetByAny ({ frames := 4, cells := 0, slots := 0, locals := 92 }) (gP x M [.ref (xa x 0), .long L, .ref (xa x (6 + g))]) (gQ x (some (.int (bI (anyB (mbO M pn L g) cn)))) M) 0 0 (gF x) := by
  refine g_met (cc := cX2_isMetByAny) (maxL := 6) (ret := some .boolean) (by decide) rfl (Nat.le_of_ble_eq_true rfl) ?_
  intro p e s m below meth c hx hb hr hml hts hown hlk hS hZ hP hV ls hl
  have hl : lv_has ls 6 [(0, .ref (xa x 0)), (1, .long L), (3, .ref (xa x (6 + g)))] := hl
  have hw_f20 := hts (.fieldLink RX2 20 "CableOffice" "cableCount" "I") (by decide +kernel)
  have hinX2 : ∀ w ∈ wsX20, w ∈ wsX2_isMetByAny := by decide +kernel
  have hw_f16 := hts (.fieldLink RX2 16 "CableOffice" "routes" "[LCableOffice$Route;") (by decide +kernel)
  have hw_iX1 := hts (.initialized RX1) (by decide +kernel)
  have hw_imX1_pieces := hts (.instanceMethod yX1_pieces) (by decide +kernel)
  have hw_seX1_pieces := hts (.selects RX1 yX1_pieces yX1_pieces) (by decide +kernel)
  have hw_imX1_pieceMeets := hts (.instanceMethod yX1_pieceMeets) (by decide +kernel)
  have hw_seX1_pieceMeets := hts (.selects RX1 yX1_pieceMeets yX1_pieceMeets) (by decide +kernel)
  have hc8 := hO.c8
  have hg5 := hO.g5
  have hd8 := hO.d8
  refine lv_iconst (v := 0) hx hb dX2_isMetByAny_0 (by decide) ?_
  refine lv_istore (lv' := [(4, .int 0), (0, .ref (xa x 0)), (1, .long L), (3, .ref (xa x (6 + g)))]) hx hb dX2_isMetByAny_1 hl (by decide) rfl (fun ls hl => ?_)
  have lp_3 : ∀ (nn k : Nat), cn - k < nn → k ≤ cn → anyB (mbO M pn L g) k = false → ∀ (H : Heap) (locs : List Loc), va_P (xD x) vwCl (wAll x M) H → va_S (gF x) s.heap H locs → ∀ ls : Array Slot, lv_has ls 6 [(4, .int (nI k)), (0, .ref (xa x 0)), (1, .long L), (3, .ref (xa x (6 + g)))] → W p l e ({ frames := 4, cells := 0, slots := 0, locals := 92 }) s m ([.ref (xa x 0), .long L, .ref (xa x (6 + g))] : List Value).toArray below meth c H locs 0 0 (MQ below (gQ x (some (.int (bI (anyB (mbO M pn L g) cn)))) M) ([.ref (xa x 0), .long L, .ref (xa x (6 + g))] : List Value).toArray s 0 0 (gF x)) (F0 m 3 ls []) := by
    intro nn
    induction nn with
    | zero => intro k hz; exact absurd hz (Nat.not_lt_zero _)
    | succ nn ih_3 =>
      intro k hf_3 hk_3 hA H locs hP hV ls hl
      refine lv_iload hx hb dX2_isMetByAny_3 (lv_at hl 0 rfl) ?_
      refine lv_aload_n hx hb dX2_isMetByAny_5 rfl (lv_at hl 1 rfl) ?_
      refine g_get (C := RX2) (T := TX2) (N := 9) (v := .int (nI cn)) hx hb hts hinX2 hown hS hP (id := 0) (by decide) rfl rfl 2 (by decide) hw_f20 (congrArg (fun z => some (Value.int z)) hO.c) dX2_isMetByAny_6 ?_
      refine h_icmp_ge_n (a := k) (b := cn) (tgt := 71) hx hb (by omega) (by omega) dX2_isMetByAny_9 (by decide) (fun c_1 => ?_) (fun c_1 => ?_)
      · -- taken
        refine lv_iconst (v := 0) hx hb dX2_isMetByAny_71 (by decide) ?_
        exact g_zret hx hb hr hlk hS hZ hP hV (Nat.le_of_ble_eq_true rfl) (Nat.le_of_ble_eq_true rfl) dX2_isMetByAny_72 (by decide) (by have h9 : anyB (mbO M pn L g) cn = false := (by rw [show k = cn by omega] at hA; exact hA); rw [h9]; rfl) (by rfl)
      · -- on
        have h7k := hO.p7 (show k < cn by omega)
        refine lv_iconst (v := 0) hx hb dX2_isMetByAny_12 (by decide) ?_
        refine lv_istore (lv' := [(5, .int 0), (4, .int (nI k)), (0, .ref (xa x 0)), (1, .long L), (3, .ref (xa x (6 + g)))]) hx hb dX2_isMetByAny_13 hl (by decide) rfl (fun ls hl => ?_)
        have lp_15 : ∀ (nn t : Nat), (pn k) - t < nn → t ≤ (pn k) → anyB (fun q => inL L (8 * k + q) && mtO (rX M k) (rY M k) q (M (6 + g) 0) (M (6 + g) 1) (M (6 + g) 2) (M (6 + g) 3)) t = false → ∀ (H : Heap) (locs : List Loc), va_P (xD x) vwCl (wAll x M) H → va_S (gF x) s.heap H locs → ∀ ls : Array Slot, lv_has ls 6 [(5, .int (nI t)), (4, .int (nI k)), (0, .ref (xa x 0)), (1, .long L), (3, .ref (xa x (6 + g)))] → W p l e ({ frames := 4, cells := 0, slots := 0, locals := 92 }) s m ([.ref (xa x 0), .long L, .ref (xa x (6 + g))] : List Value).toArray below meth c H locs 0 0 (MQ below (gQ x (some (.int (bI (anyB (mbO M pn L g) cn)))) M) ([.ref (xa x 0), .long L, .ref (xa x (6 + g))] : List Value).toArray s 0 0 (gF x)) (F0 m 15 ls []) := by
          intro nn
          induction nn with
          | zero => intro t hz; exact absurd hz (Nat.not_lt_zero _)
          | succ nn ih_15 =>
            intro t hf_15 hk_15 hB H locs hP hV ls hl
            refine lv_iload hx hb dX2_isMetByAny_15 (lv_at hl 0 rfl) ?_
            refine lv_aload_n hx hb dX2_isMetByAny_17 rfl (lv_at hl 2 rfl) ?_
            refine g_get (C := RX2) (T := TX2) (N := 9) (v := .ref (xa x 1)) hx hb hts hinX2 hown hS hP (id := 0) (by decide) rfl rfl 1 (by decide) hw_f16 rfl dX2_isMetByAny_18 ?_
            refine lv_iload hx hb dX2_isMetByAny_21 (lv_at hl 1 rfl) ?_
            refine g_aaldR (j := k) hx hb hS hP rfl (by omega) dX2_isMetByAny_23 ?_
            refine g_call1 (va_runVN (As := []) (rest := [.int (nI t)]) ⟨hx, hb, hml, hown, hts⟩ (c_X1_pieces l x M k (pn k) (by omega) (hO.p (by omega))) ⟨va_cnB (host := RX2) 0 hts gX2_isMetByAny_X1_pieces_n200 rfl rfl rfl (hS.2.2.2.2.1 _ (by decide +kernel)) hw_iX1 (by decide +kernel) ⟨Nat.le_of_ble_eq_true rfl, Nat.le_of_ble_eq_true rfl⟩, hw_imX1_pieces, hw_seX1_pieces⟩ (g_preV hS hZ hP hV [] (id := 11 + 3 * k) (by omega) (sh_r x _ (by omega)) rfl) rfl rfl hl.1 rfl (lv_room (Nat.le_of_ble_eq_true rfl)) dX2_isMetByAny_24 ⟨Nat.le_of_ble_eq_true rfl, Nat.le_of_ble_eq_true rfl⟩) hV (fun H locs hP hV => ?_)
            refine h_icmp_ge_n (a := t) (b := pn k) (tgt := 65) hx hb (by omega) (by omega) dX2_isMetByAny_27 (by decide) (fun c_2 => ?_) (fun c_2 => ?_)
            · -- taken
              refine lv_iinc (v := nI (k + 1)) (lv' := [(4, .int (nI (k + 1))), (5, .int (nI t)), (0, .ref (xa x 0)), (1, .long L), (3, .ref (xa x (6 + g)))]) hx hb dX2_isMetByAny_65 hl (k := 1) rfl (nI_add (k) 1) (by decide) rfl (fun ls hl => ?_)
              refine lv_goto (tgt := 3) hx hb dX2_isMetByAny_68 (by decide) ?_
              exact ih_3 (k + 1) (by omega) (by omega) (by exact anyB_f hA (by rw [show t = pn k by omega] at hB; exact hB)) _ _ hP hV ls (lv_sub hl [0, 2, 3, 4] rfl)
            · -- on
              refine lv_lload_n hx hb dX2_isMetByAny_30 rfl (lv_at hl 3 rfl) ?_
              refine lv_iload hx hb dX2_isMetByAny_31 (lv_at hl 1 rfl) ?_
              refine lv_iload hx hb dX2_isMetByAny_33 (lv_at hl 0 rfl) ?_
              refine g_call1 (va_runS (As := [.long L, .int (nI k), .int (nI t)]) (rest := []) ⟨hx, hb, hml, hown, hts⟩ (c_X2_isIn l x M L k t) (va_cwS 3 hts gX2_isMetByAny_X2_isIn rfl rfl rfl (by decide +kernel) ⟨Nat.le_of_ble_eq_true rfl, Nat.le_of_ble_eq_true rfl⟩) (g_preS hS hZ hP hV [.long L, .int (nI k), .int (nI t)]) rfl rfl hl.1 rfl (lv_room (Nat.le_of_ble_eq_true rfl)) dX2_isMetByAny_35 ⟨Nat.le_of_ble_eq_true rfl, Nat.le_of_ble_eq_true rfl⟩) hV (fun H locs hP hV => ?_)
              refine h_if_eq_b (tgt := 59) hx hb dX2_isMetByAny_38 (by decide) (fun c_3 => ?_) (fun c_3 => ?_)
              · -- taken
                refine lv_iinc (v := nI (t + 1)) (lv' := [(5, .int (nI (t + 1))), (4, .int (nI k)), (0, .ref (xa x 0)), (1, .long L), (3, .ref (xa x (6 + g)))]) hx hb dX2_isMetByAny_59 hl (k := 0) rfl (nI_add (t) 1) (by decide) rfl (fun ls hl => ?_)
                refine lv_goto (tgt := 15) hx hb dX2_isMetByAny_62 (by decide) ?_
                exact ih_15 (t + 1) (by omega) (by omega) (by exact anyB_f hB (by simp [rX, rY, c_1, c_2, c_3])) _ _ hP hV ls (lv_sub hl [0, 1, 2, 3, 4] rfl)
              · -- on
                refine lv_aload_n hx hb dX2_isMetByAny_41 rfl (lv_at hl 2 rfl) ?_
                refine g_get (C := RX2) (T := TX2) (N := 9) (v := .ref (xa x 1)) hx hb hts hinX2 hown hS hP (id := 0) (by decide) rfl rfl 1 (by decide) hw_f16 rfl dX2_isMetByAny_42 ?_
                refine lv_iload hx hb dX2_isMetByAny_45 (lv_at hl 1 rfl) ?_
                refine g_aaldR (j := k) hx hb hS hP rfl (by omega) dX2_isMetByAny_47 ?_
                refine lv_iload hx hb dX2_isMetByAny_48 (lv_at hl 0 rfl) ?_
                refine lv_aload_n hx hb dX2_isMetByAny_50 rfl (lv_at hl 4 rfl) ?_
                refine g_call1 (va_runVN (As := [.int (nI t), .ref (xa x (6 + g))]) (rest := []) ⟨hx, hb, hml, hown, hts⟩ (c_X1_pieceMeets l x M k t g (by omega) (by omega) (by omega)) ⟨va_cnB (host := RX2) 2 hts gX2_isMetByAny_X1_pieceMeets_n155 rfl rfl rfl (hS.2.2.2.2.1 _ (by decide +kernel)) hw_iX1 (by decide +kernel) ⟨Nat.le_of_ble_eq_true rfl, Nat.le_of_ble_eq_true rfl⟩, hw_imX1_pieceMeets, hw_seX1_pieceMeets⟩ (g_preV hS hZ hP hV [.int (nI t), .ref (xa x (6 + g))] (id := 11 + 3 * k) (by omega) (sh_r x _ (by omega)) rfl) rfl rfl hl.1 rfl (lv_room (Nat.le_of_ble_eq_true rfl)) dX2_isMetByAny_51 ⟨Nat.le_of_ble_eq_true rfl, Nat.le_of_ble_eq_true rfl⟩) hV (fun H locs hP hV => ?_)
                refine h_if_eq_b (tgt := 59) hx hb dX2_isMetByAny_54 (by decide) (fun c_4 => ?_) (fun c_4 => ?_)
                · -- taken
                  refine lv_iinc (v := nI (t + 1)) (lv' := [(5, .int (nI (t + 1))), (4, .int (nI k)), (0, .ref (xa x 0)), (1, .long L), (3, .ref (xa x (6 + g)))]) hx hb dX2_isMetByAny_59 hl (k := 0) rfl (nI_add (t) 1) (by decide) rfl (fun ls hl => ?_)
                  refine lv_goto (tgt := 15) hx hb dX2_isMetByAny_62 (by decide) ?_
                  exact ih_15 (t + 1) (by omega) (by omega) (by exact anyB_f hB (by simp [rX, rY, c_1, c_2, c_3, c_4])) _ _ hP hV ls (lv_sub hl [0, 1, 2, 3, 4] rfl)
                · -- on
                  refine lv_iconst (v := 1) hx hb dX2_isMetByAny_57 (by decide) ?_
                  exact g_zret hx hb hr hlk hS hZ hP hV (Nat.le_of_ble_eq_true rfl) (Nat.le_of_ble_eq_true rfl) dX2_isMetByAny_58 (by decide) (by have h9 : anyB (mbO M pn L g) cn = true := anyB_of (k := k) (by omega) (anyB_of (k := t) (by omega) (by simp [rX, rY, c_1, c_2, c_3, c_4])); rw [h9]; rfl) (by rfl)
        exact lp_15 ((pn k) - (0) + 1) (0) (by omega) (by omega) (by rfl) _ _ hP hV ls (lv_sub hl [0, 1, 2, 3, 4] rfl)
  exact lp_3 (cn - (0) + 1) (0) (by omega) (by omega) (by rfl) _ _ hP hV ls (lv_sub hl [0, 1, 2, 3] rfl)
set_option maxHeartbeats 4000000 in
set_option maxRecDepth 100000 in
theorem c_X2_isOwed (l : Launch) (x : Cx) (M : Nat → Nat → Int32) (cn gn dn : Nat) (pn : Nat → Nat) (L : Int64) (g : Nat) (mo : Int32) (hO : OkO M cn gn dn pn) (hg : g < 5) : Met l yX2_isOwed wsX2_isOwed ({ frames := 5, cells := 0, slots := 0, locals := 117 }) (gP x M [.ref (xa x 0), .long L, .ref (xa x (6 + g)), .int mo]) (gQ x (some (.int (bI (owO M pn cn L mo g)))) M) 0 0 (gF x) := by
  refine g_met (cc := cX2_isOwed) (maxL := 5) (ret := some .boolean) (by decide) rfl (Nat.le_of_ble_eq_true rfl) ?_
  intro p e s m below meth c hx hb hr hml hts hown hlk hS hZ hP hV ls hl
  have hl : lv_has ls 5 [(0, .ref (xa x 0)), (1, .long L), (3, .ref (xa x (6 + g))), (4, .int mo)] := hl
  have hw_iX0 := hts (.initialized RX0) (by decide +kernel)
  have hw_imX0_isShutIn := hts (.instanceMethod yX0_isShutIn) (by decide +kernel)
  have hw_seX0_isShutIn := hts (.selects RX0 yX0_isShutIn yX0_isShutIn) (by decide +kernel)
  have hc8 := hO.c8
  have hg5 := hO.g5
  have hd8 := hO.d8
  refine lv_aload_n hx hb dX2_isOwed_0 rfl (lv_at hl 2 rfl) ?_
  refine lv_iload hx hb dX2_isOwed_1 (lv_at hl 3 rfl) ?_
  refine g_call1 (va_runVN (As := [.int mo]) (rest := []) ⟨hx, hb, hml, hown, hts⟩ (c_X0_isShutIn l x M g mo (by omega)) ⟨va_cnB (host := RX2) 1 hts gX2_isOwed_X0_isShutIn_n148 rfl rfl rfl (hS.2.2.2.2.1 _ (by decide +kernel)) hw_iX0 (by decide +kernel) ⟨Nat.le_of_ble_eq_true rfl, Nat.le_of_ble_eq_true rfl⟩, hw_imX0_isShutIn, hw_seX0_isShutIn⟩ (g_preV hS hZ hP hV [.int mo] (id := 6 + g) (by omega) (sh_g x _ (by omega)) rfl) rfl rfl hl.1 rfl (lv_room (Nat.le_of_ble_eq_true rfl)) dX2_isOwed_3 ⟨Nat.le_of_ble_eq_true rfl, Nat.le_of_ble_eq_true rfl⟩) hV (fun H locs hP hV => ?_)
  refine h_if_eq_b (tgt := 22) hx hb dX2_isOwed_6 (by decide) (fun c_1 => ?_) (fun c_1 => ?_)
  · -- taken
    refine lv_iconst (v := 0) hx hb dX2_isOwed_22 (by decide) ?_
    exact g_zret hx hb hr hlk hS hZ hP hV (Nat.le_of_ble_eq_true rfl) (Nat.le_of_ble_eq_true rfl) dX2_isOwed_23 (by decide) (by simp [owO, bI, c_1]) (by rfl)
  · -- on
    refine lv_aload_n hx hb dX2_isOwed_9 rfl (lv_at hl 0 rfl) ?_
    refine lv_lload_n hx hb dX2_isOwed_10 rfl (lv_at hl 1 rfl) ?_
    refine lv_aload_n hx hb dX2_isOwed_11 rfl (lv_at hl 2 rfl) ?_
    refine g_call1 (va_runV (As := [.long L, .ref (xa x (6 + g))]) (rest := []) ⟨hx, hb, hml, hown, hts⟩ (c_X2_isMetByAny l x M cn gn dn pn L g hO (by omega)) (cwV 2 hts gX2_isOwed_X2_isMetByAny rfl rfl rfl (by decide +kernel) ⟨Nat.le_of_ble_eq_true rfl, Nat.le_of_ble_eq_true rfl⟩) (g_preV hS hZ hP hV [.long L, .ref (xa x (6 + g))] (id := 0) (by decide) rfl rfl) rfl rfl hl.1 rfl (lv_room (Nat.le_of_ble_eq_true rfl)) dX2_isOwed_12 ⟨Nat.le_of_ble_eq_true rfl, Nat.le_of_ble_eq_true rfl⟩) hV (fun H locs hP hV => ?_)
    refine h_if_eq_b (tgt := 22) hx hb dX2_isOwed_15 (by decide) (fun c_2 => ?_) (fun c_2 => ?_)
    · -- taken
      refine lv_iconst (v := 0) hx hb dX2_isOwed_22 (by decide) ?_
      exact g_zret hx hb hr hlk hS hZ hP hV (Nat.le_of_ble_eq_true rfl) (Nat.le_of_ble_eq_true rfl) dX2_isOwed_23 (by decide) (by simp [owO, bI, c_1, c_2]) (by rfl)
    · -- on
      refine lv_iconst (v := 1) hx hb dX2_isOwed_18 (by decide) ?_
      refine lv_goto (tgt := 23) hx hb dX2_isOwed_19 (by decide) ?_
      exact g_zret hx hb hr hlk hS hZ hP hV (Nat.le_of_ble_eq_true rfl) (Nat.le_of_ble_eq_true rfl) dX2_isOwed_23 (by decide) (by simp [owO, bI, c_1, c_2]) (by rfl)
set_option maxHeartbeats 4000000 in
set_option maxRecDepth 100000 in
theorem c_J13_bitCount (l : Launch) (x : Cx) (M : Nat → Nat → Int32) (L : Int64) : Met l yJ13_bitCount_95d88 wsJ13_bitCount_95d88 ({ frames := 0, cells := 0, slots := 0, locals := 0 }) (gP x M [.long L]) (gQ x (some (.int (bcI L))) M) 0 0 (gF x) := by
  refine g_metF (cc := cJ13_bitCount_95d88) (maxL := 2) (ret := some .int) (by decide) rfl (Nat.le_of_ble_eq_true rfl) ?_
  intro p e s m below meth c hx hb hr hml hts hown hlk hS hZ hP hV ls hl
  have hl : lv_has ls 2 [(0, .long L)] := hl
  have hw_k314 := hts (.constantLong RJ13 314 (6148914691236517205)) (by decide +kernel)
  have hw_k316 := hts (.constantLong RJ13 316 (3689348814741910323)) (by decide +kernel)
  have hw_k318 := hts (.constantLong RJ13 318 (1085102592571150095)) (by decide +kernel)
  refine lv_lload_n hx hb dJ13_bitCount_95d88_0 rfl (lv_at hl 0 rfl) ?_
  refine lv_lload_n hx hb dJ13_bitCount_95d88_1 rfl (lv_at hl 0 rfl) ?_
  refine lv_iconst (v := 1) hx hb dJ13_bitCount_95d88_2 (by decide) ?_
  refine lv_lushr (v := (L.toUInt64 >>> ((1 : Int32).toInt64.toUInt64 &&& Int64.toUInt64 63)).toInt64) hx hb dJ13_bitCount_95d88_3 rfl ?_
  refine lv_ldc2 (v := 6148914691236517205) hx hb hown hw_k314 dJ13_bitCount_95d88_4 ?_
  refine lv_land hx hb dJ13_bitCount_95d88_7 ?_
  refine lv_lsub hx hb dJ13_bitCount_95d88_8 ?_
  refine lv_lstore_n (lv' := [(0, .long (L - (((L.toUInt64 >>> ((1 : Int32).toInt64.toUInt64 &&& Int64.toUInt64 63)).toInt64) &&& 6148914691236517205)))]) hx hb dJ13_bitCount_95d88_9 rfl hl (by decide) rfl (fun ls hl => ?_)
  refine lv_lload_n hx hb dJ13_bitCount_95d88_10 rfl (lv_at hl 0 rfl) ?_
  refine lv_ldc2 (v := 3689348814741910323) hx hb hown hw_k316 dJ13_bitCount_95d88_11 ?_
  refine lv_land hx hb dJ13_bitCount_95d88_14 ?_
  refine lv_lload_n hx hb dJ13_bitCount_95d88_15 rfl (lv_at hl 0 rfl) ?_
  refine lv_iconst (v := 2) hx hb dJ13_bitCount_95d88_16 (by decide) ?_
  refine lv_lushr (v := ((L - (((L.toUInt64 >>> ((1 : Int32).toInt64.toUInt64 &&& Int64.toUInt64 63)).toInt64) &&& 6148914691236517205)).toUInt64 >>> ((2 : Int32).toInt64.toUInt64 &&& Int64.toUInt64 63)).toInt64) hx hb dJ13_bitCount_95d88_17 rfl ?_
  refine lv_ldc2 (v := 3689348814741910323) hx hb hown hw_k316 dJ13_bitCount_95d88_18 ?_
  refine lv_land hx hb dJ13_bitCount_95d88_21 ?_
  refine lv_ladd hx hb dJ13_bitCount_95d88_22 ?_
  refine lv_lstore_n (lv' := [(0, .long (((L - (((L.toUInt64 >>> ((1 : Int32).toInt64.toUInt64 &&& Int64.toUInt64 63)).toInt64) &&& 6148914691236517205)) &&& 3689348814741910323) + ((((L - (((L.toUInt64 >>> ((1 : Int32).toInt64.toUInt64 &&& Int64.toUInt64 63)).toInt64) &&& 6148914691236517205)).toUInt64 >>> ((2 : Int32).toInt64.toUInt64 &&& Int64.toUInt64 63)).toInt64) &&& 3689348814741910323)))]) hx hb dJ13_bitCount_95d88_23 rfl hl (by decide) rfl (fun ls hl => ?_)
  refine lv_lload_n hx hb dJ13_bitCount_95d88_24 rfl (lv_at hl 0 rfl) ?_
  refine lv_lload_n hx hb dJ13_bitCount_95d88_25 rfl (lv_at hl 0 rfl) ?_
  refine lv_iconst (v := 4) hx hb dJ13_bitCount_95d88_26 (by decide) ?_
  refine lv_lushr (v := ((((L - (((L.toUInt64 >>> ((1 : Int32).toInt64.toUInt64 &&& Int64.toUInt64 63)).toInt64) &&& 6148914691236517205)) &&& 3689348814741910323) + ((((L - (((L.toUInt64 >>> ((1 : Int32).toInt64.toUInt64 &&& Int64.toUInt64 63)).toInt64) &&& 6148914691236517205)).toUInt64 >>> ((2 : Int32).toInt64.toUInt64 &&& Int64.toUInt64 63)).toInt64) &&& 3689348814741910323)).toUInt64 >>> ((4 : Int32).toInt64.toUInt64 &&& Int64.toUInt64 63)).toInt64) hx hb dJ13_bitCount_95d88_27 rfl ?_
  refine lv_ladd hx hb dJ13_bitCount_95d88_28 ?_
  refine lv_ldc2 (v := 1085102592571150095) hx hb hown hw_k318 dJ13_bitCount_95d88_29 ?_
  refine lv_land hx hb dJ13_bitCount_95d88_32 ?_
  refine lv_lstore_n (lv' := [(0, .long (((((L - (((L.toUInt64 >>> ((1 : Int32).toInt64.toUInt64 &&& Int64.toUInt64 63)).toInt64) &&& 6148914691236517205)) &&& 3689348814741910323) + ((((L - (((L.toUInt64 >>> ((1 : Int32).toInt64.toUInt64 &&& Int64.toUInt64 63)).toInt64) &&& 6148914691236517205)).toUInt64 >>> ((2 : Int32).toInt64.toUInt64 &&& Int64.toUInt64 63)).toInt64) &&& 3689348814741910323)) + (((((L - (((L.toUInt64 >>> ((1 : Int32).toInt64.toUInt64 &&& Int64.toUInt64 63)).toInt64) &&& 6148914691236517205)) &&& 3689348814741910323) + ((((L - (((L.toUInt64 >>> ((1 : Int32).toInt64.toUInt64 &&& Int64.toUInt64 63)).toInt64) &&& 6148914691236517205)).toUInt64 >>> ((2 : Int32).toInt64.toUInt64 &&& Int64.toUInt64 63)).toInt64) &&& 3689348814741910323)).toUInt64 >>> ((4 : Int32).toInt64.toUInt64 &&& Int64.toUInt64 63)).toInt64)) &&& 1085102592571150095))]) hx hb dJ13_bitCount_95d88_33 rfl hl (by decide) rfl (fun ls hl => ?_)
  refine lv_lload_n hx hb dJ13_bitCount_95d88_34 rfl (lv_at hl 0 rfl) ?_
  refine lv_lload_n hx hb dJ13_bitCount_95d88_35 rfl (lv_at hl 0 rfl) ?_
  refine lv_bipush (v := 8) hx hb dJ13_bitCount_95d88_36 (by decide) ?_
  refine lv_lushr (v := ((((((L - (((L.toUInt64 >>> ((1 : Int32).toInt64.toUInt64 &&& Int64.toUInt64 63)).toInt64) &&& 6148914691236517205)) &&& 3689348814741910323) + ((((L - (((L.toUInt64 >>> ((1 : Int32).toInt64.toUInt64 &&& Int64.toUInt64 63)).toInt64) &&& 6148914691236517205)).toUInt64 >>> ((2 : Int32).toInt64.toUInt64 &&& Int64.toUInt64 63)).toInt64) &&& 3689348814741910323)) + (((((L - (((L.toUInt64 >>> ((1 : Int32).toInt64.toUInt64 &&& Int64.toUInt64 63)).toInt64) &&& 6148914691236517205)) &&& 3689348814741910323) + ((((L - (((L.toUInt64 >>> ((1 : Int32).toInt64.toUInt64 &&& Int64.toUInt64 63)).toInt64) &&& 6148914691236517205)).toUInt64 >>> ((2 : Int32).toInt64.toUInt64 &&& Int64.toUInt64 63)).toInt64) &&& 3689348814741910323)).toUInt64 >>> ((4 : Int32).toInt64.toUInt64 &&& Int64.toUInt64 63)).toInt64)) &&& 1085102592571150095).toUInt64 >>> ((8 : Int32).toInt64.toUInt64 &&& Int64.toUInt64 63)).toInt64) hx hb dJ13_bitCount_95d88_38 rfl ?_
  refine lv_ladd hx hb dJ13_bitCount_95d88_39 ?_
  refine lv_lstore_n (lv' := [(0, .long ((((((L - (((L.toUInt64 >>> ((1 : Int32).toInt64.toUInt64 &&& Int64.toUInt64 63)).toInt64) &&& 6148914691236517205)) &&& 3689348814741910323) + ((((L - (((L.toUInt64 >>> ((1 : Int32).toInt64.toUInt64 &&& Int64.toUInt64 63)).toInt64) &&& 6148914691236517205)).toUInt64 >>> ((2 : Int32).toInt64.toUInt64 &&& Int64.toUInt64 63)).toInt64) &&& 3689348814741910323)) + (((((L - (((L.toUInt64 >>> ((1 : Int32).toInt64.toUInt64 &&& Int64.toUInt64 63)).toInt64) &&& 6148914691236517205)) &&& 3689348814741910323) + ((((L - (((L.toUInt64 >>> ((1 : Int32).toInt64.toUInt64 &&& Int64.toUInt64 63)).toInt64) &&& 6148914691236517205)).toUInt64 >>> ((2 : Int32).toInt64.toUInt64 &&& Int64.toUInt64 63)).toInt64) &&& 3689348814741910323)).toUInt64 >>> ((4 : Int32).toInt64.toUInt64 &&& Int64.toUInt64 63)).toInt64)) &&& 1085102592571150095) + (((((((L - (((L.toUInt64 >>> ((1 : Int32).toInt64.toUInt64 &&& Int64.toUInt64 63)).toInt64) &&& 6148914691236517205)) &&& 3689348814741910323) + ((((L - (((L.toUInt64 >>> ((1 : Int32).toInt64.toUInt64 &&& Int64.toUInt64 63)).toInt64) &&& 6148914691236517205)).toUInt64 >>> ((2 : Int32).toInt64.toUInt64 &&& Int64.toUInt64 63)).toInt64) &&& 3689348814741910323)) + (((((L - (((L.toUInt64 >>> ((1 : Int32).toInt64.toUInt64 &&& Int64.toUInt64 63)).toInt64) &&& 6148914691236517205)) &&& 3689348814741910323) + ((((L - (((L.toUInt64 >>> ((1 : Int32).toInt64.toUInt64 &&& Int64.toUInt64 63)).toInt64) &&& 6148914691236517205)).toUInt64 >>> ((2 : Int32).toInt64.toUInt64 &&& Int64.toUInt64 63)).toInt64) &&& 3689348814741910323)).toUInt64 >>> ((4 : Int32).toInt64.toUInt64 &&& Int64.toUInt64 63)).toInt64)) &&& 1085102592571150095).toUInt64 >>> ((8 : Int32).toInt64.toUInt64 &&& Int64.toUInt64 63)).toInt64)))]) hx hb dJ13_bitCount_95d88_40 rfl hl (by decide) rfl (fun ls hl => ?_)
  refine lv_lload_n hx hb dJ13_bitCount_95d88_41 rfl (lv_at hl 0 rfl) ?_
  refine lv_lload_n hx hb dJ13_bitCount_95d88_42 rfl (lv_at hl 0 rfl) ?_
  refine lv_bipush (v := 16) hx hb dJ13_bitCount_95d88_43 (by decide) ?_
  refine lv_lushr (v := (((((((L - (((L.toUInt64 >>> ((1 : Int32).toInt64.toUInt64 &&& Int64.toUInt64 63)).toInt64) &&& 6148914691236517205)) &&& 3689348814741910323) + ((((L - (((L.toUInt64 >>> ((1 : Int32).toInt64.toUInt64 &&& Int64.toUInt64 63)).toInt64) &&& 6148914691236517205)).toUInt64 >>> ((2 : Int32).toInt64.toUInt64 &&& Int64.toUInt64 63)).toInt64) &&& 3689348814741910323)) + (((((L - (((L.toUInt64 >>> ((1 : Int32).toInt64.toUInt64 &&& Int64.toUInt64 63)).toInt64) &&& 6148914691236517205)) &&& 3689348814741910323) + ((((L - (((L.toUInt64 >>> ((1 : Int32).toInt64.toUInt64 &&& Int64.toUInt64 63)).toInt64) &&& 6148914691236517205)).toUInt64 >>> ((2 : Int32).toInt64.toUInt64 &&& Int64.toUInt64 63)).toInt64) &&& 3689348814741910323)).toUInt64 >>> ((4 : Int32).toInt64.toUInt64 &&& Int64.toUInt64 63)).toInt64)) &&& 1085102592571150095) + (((((((L - (((L.toUInt64 >>> ((1 : Int32).toInt64.toUInt64 &&& Int64.toUInt64 63)).toInt64) &&& 6148914691236517205)) &&& 3689348814741910323) + ((((L - (((L.toUInt64 >>> ((1 : Int32).toInt64.toUInt64 &&& Int64.toUInt64 63)).toInt64) &&& 6148914691236517205)).toUInt64 >>> ((2 : Int32).toInt64.toUInt64 &&& Int64.toUInt64 63)).toInt64) &&& 3689348814741910323)) + (((((L - (((L.toUInt64 >>> ((1 : Int32).toInt64.toUInt64 &&& Int64.toUInt64 63)).toInt64) &&& 6148914691236517205)) &&& 3689348814741910323) + ((((L - (((L.toUInt64 >>> ((1 : Int32).toInt64.toUInt64 &&& Int64.toUInt64 63)).toInt64) &&& 6148914691236517205)).toUInt64 >>> ((2 : Int32).toInt64.toUInt64 &&& Int64.toUInt64 63)).toInt64) &&& 3689348814741910323)).toUInt64 >>> ((4 : Int32).toInt64.toUInt64 &&& Int64.toUInt64 63)).toInt64)) &&& 1085102592571150095).toUInt64 >>> ((8 : Int32).toInt64.toUInt64 &&& Int64.toUInt64 63)).toInt64)).toUInt64 >>> ((16 : Int32).toInt64.toUInt64 &&& Int64.toUInt64 63)).toInt64) hx hb dJ13_bitCount_95d88_45 rfl ?_
  refine lv_ladd hx hb dJ13_bitCount_95d88_46 ?_
  refine lv_lstore_n (lv' := [(0, .long (((((((L - (((L.toUInt64 >>> ((1 : Int32).toInt64.toUInt64 &&& Int64.toUInt64 63)).toInt64) &&& 6148914691236517205)) &&& 3689348814741910323) + ((((L - (((L.toUInt64 >>> ((1 : Int32).toInt64.toUInt64 &&& Int64.toUInt64 63)).toInt64) &&& 6148914691236517205)).toUInt64 >>> ((2 : Int32).toInt64.toUInt64 &&& Int64.toUInt64 63)).toInt64) &&& 3689348814741910323)) + (((((L - (((L.toUInt64 >>> ((1 : Int32).toInt64.toUInt64 &&& Int64.toUInt64 63)).toInt64) &&& 6148914691236517205)) &&& 3689348814741910323) + ((((L - (((L.toUInt64 >>> ((1 : Int32).toInt64.toUInt64 &&& Int64.toUInt64 63)).toInt64) &&& 6148914691236517205)).toUInt64 >>> ((2 : Int32).toInt64.toUInt64 &&& Int64.toUInt64 63)).toInt64) &&& 3689348814741910323)).toUInt64 >>> ((4 : Int32).toInt64.toUInt64 &&& Int64.toUInt64 63)).toInt64)) &&& 1085102592571150095) + (((((((L - (((L.toUInt64 >>> ((1 : Int32).toInt64.toUInt64 &&& Int64.toUInt64 63)).toInt64) &&& 6148914691236517205)) &&& 3689348814741910323) + ((((L - (((L.toUInt64 >>> ((1 : Int32).toInt64.toUInt64 &&& Int64.toUInt64 63)).toInt64) &&& 6148914691236517205)).toUInt64 >>> ((2 : Int32).toInt64.toUInt64 &&& Int64.toUInt64 63)).toInt64) &&& 3689348814741910323)) + (((((L - (((L.toUInt64 >>> ((1 : Int32).toInt64.toUInt64 &&& Int64.toUInt64 63)).toInt64) &&& 6148914691236517205)) &&& 3689348814741910323) + ((((L - (((L.toUInt64 >>> ((1 : Int32).toInt64.toUInt64 &&& Int64.toUInt64 63)).toInt64) &&& 6148914691236517205)).toUInt64 >>> ((2 : Int32).toInt64.toUInt64 &&& Int64.toUInt64 63)).toInt64) &&& 3689348814741910323)).toUInt64 >>> ((4 : Int32).toInt64.toUInt64 &&& Int64.toUInt64 63)).toInt64)) &&& 1085102592571150095).toUInt64 >>> ((8 : Int32).toInt64.toUInt64 &&& Int64.toUInt64 63)).toInt64)) + ((((((((L - (((L.toUInt64 >>> ((1 : Int32).toInt64.toUInt64 &&& Int64.toUInt64 63)).toInt64) &&& 6148914691236517205)) &&& 3689348814741910323) + ((((L - (((L.toUInt64 >>> ((1 : Int32).toInt64.toUInt64 &&& Int64.toUInt64 63)).toInt64) &&& 6148914691236517205)).toUInt64 >>> ((2 : Int32).toInt64.toUInt64 &&& Int64.toUInt64 63)).toInt64) &&& 3689348814741910323)) + (((((L - (((L.toUInt64 >>> ((1 : Int32).toInt64.toUInt64 &&& Int64.toUInt64 63)).toInt64) &&& 6148914691236517205)) &&& 3689348814741910323) + ((((L - (((L.toUInt64 >>> ((1 : Int32).toInt64.toUInt64 &&& Int64.toUInt64 63)).toInt64) &&& 6148914691236517205)).toUInt64 >>> ((2 : Int32).toInt64.toUInt64 &&& Int64.toUInt64 63)).toInt64) &&& 3689348814741910323)).toUInt64 >>> ((4 : Int32).toInt64.toUInt64 &&& Int64.toUInt64 63)).toInt64)) &&& 1085102592571150095) + (((((((L - (((L.toUInt64 >>> ((1 : Int32).toInt64.toUInt64 &&& Int64.toUInt64 63)).toInt64) &&& 6148914691236517205)) &&& 3689348814741910323) + ((((L - (((L.toUInt64 >>> ((1 : Int32).toInt64.toUInt64 &&& Int64.toUInt64 63)).toInt64) &&& 6148914691236517205)).toUInt64 >>> ((2 : Int32).toInt64.toUInt64 &&& Int64.toUInt64 63)).toInt64) &&& 3689348814741910323)) + (((((L - (((L.toUInt64 >>> ((1 : Int32).toInt64.toUInt64 &&& Int64.toUInt64 63)).toInt64) &&& 6148914691236517205)) &&& 3689348814741910323) + ((((L - (((L.toUInt64 >>> ((1 : Int32).toInt64.toUInt64 &&& Int64.toUInt64 63)).toInt64) &&& 6148914691236517205)).toUInt64 >>> ((2 : Int32).toInt64.toUInt64 &&& Int64.toUInt64 63)).toInt64) &&& 3689348814741910323)).toUInt64 >>> ((4 : Int32).toInt64.toUInt64 &&& Int64.toUInt64 63)).toInt64)) &&& 1085102592571150095).toUInt64 >>> ((8 : Int32).toInt64.toUInt64 &&& Int64.toUInt64 63)).toInt64)).toUInt64 >>> ((16 : Int32).toInt64.toUInt64 &&& Int64.toUInt64 63)).toInt64)))]) hx hb dJ13_bitCount_95d88_47 rfl hl (by decide) rfl (fun ls hl => ?_)
  refine lv_lload_n hx hb dJ13_bitCount_95d88_48 rfl (lv_at hl 0 rfl) ?_
  refine lv_lload_n hx hb dJ13_bitCount_95d88_49 rfl (lv_at hl 0 rfl) ?_
  refine lv_bipush (v := 32) hx hb dJ13_bitCount_95d88_50 (by decide) ?_
  refine lv_lushr (v := ((((((((L - (((L.toUInt64 >>> ((1 : Int32).toInt64.toUInt64 &&& Int64.toUInt64 63)).toInt64) &&& 6148914691236517205)) &&& 3689348814741910323) + ((((L - (((L.toUInt64 >>> ((1 : Int32).toInt64.toUInt64 &&& Int64.toUInt64 63)).toInt64) &&& 6148914691236517205)).toUInt64 >>> ((2 : Int32).toInt64.toUInt64 &&& Int64.toUInt64 63)).toInt64) &&& 3689348814741910323)) + (((((L - (((L.toUInt64 >>> ((1 : Int32).toInt64.toUInt64 &&& Int64.toUInt64 63)).toInt64) &&& 6148914691236517205)) &&& 3689348814741910323) + ((((L - (((L.toUInt64 >>> ((1 : Int32).toInt64.toUInt64 &&& Int64.toUInt64 63)).toInt64) &&& 6148914691236517205)).toUInt64 >>> ((2 : Int32).toInt64.toUInt64 &&& Int64.toUInt64 63)).toInt64) &&& 3689348814741910323)).toUInt64 >>> ((4 : Int32).toInt64.toUInt64 &&& Int64.toUInt64 63)).toInt64)) &&& 1085102592571150095) + (((((((L - (((L.toUInt64 >>> ((1 : Int32).toInt64.toUInt64 &&& Int64.toUInt64 63)).toInt64) &&& 6148914691236517205)) &&& 3689348814741910323) + ((((L - (((L.toUInt64 >>> ((1 : Int32).toInt64.toUInt64 &&& Int64.toUInt64 63)).toInt64) &&& 6148914691236517205)).toUInt64 >>> ((2 : Int32).toInt64.toUInt64 &&& Int64.toUInt64 63)).toInt64) &&& 3689348814741910323)) + (((((L - (((L.toUInt64 >>> ((1 : Int32).toInt64.toUInt64 &&& Int64.toUInt64 63)).toInt64) &&& 6148914691236517205)) &&& 3689348814741910323) + ((((L - (((L.toUInt64 >>> ((1 : Int32).toInt64.toUInt64 &&& Int64.toUInt64 63)).toInt64) &&& 6148914691236517205)).toUInt64 >>> ((2 : Int32).toInt64.toUInt64 &&& Int64.toUInt64 63)).toInt64) &&& 3689348814741910323)).toUInt64 >>> ((4 : Int32).toInt64.toUInt64 &&& Int64.toUInt64 63)).toInt64)) &&& 1085102592571150095).toUInt64 >>> ((8 : Int32).toInt64.toUInt64 &&& Int64.toUInt64 63)).toInt64)) + ((((((((L - (((L.toUInt64 >>> ((1 : Int32).toInt64.toUInt64 &&& Int64.toUInt64 63)).toInt64) &&& 6148914691236517205)) &&& 3689348814741910323) + ((((L - (((L.toUInt64 >>> ((1 : Int32).toInt64.toUInt64 &&& Int64.toUInt64 63)).toInt64) &&& 6148914691236517205)).toUInt64 >>> ((2 : Int32).toInt64.toUInt64 &&& Int64.toUInt64 63)).toInt64) &&& 3689348814741910323)) + (((((L - (((L.toUInt64 >>> ((1 : Int32).toInt64.toUInt64 &&& Int64.toUInt64 63)).toInt64) &&& 6148914691236517205)) &&& 3689348814741910323) + ((((L - (((L.toUInt64 >>> ((1 : Int32).toInt64.toUInt64 &&& Int64.toUInt64 63)).toInt64) &&& 6148914691236517205)).toUInt64 >>> ((2 : Int32).toInt64.toUInt64 &&& Int64.toUInt64 63)).toInt64) &&& 3689348814741910323)).toUInt64 >>> ((4 : Int32).toInt64.toUInt64 &&& Int64.toUInt64 63)).toInt64)) &&& 1085102592571150095) + (((((((L - (((L.toUInt64 >>> ((1 : Int32).toInt64.toUInt64 &&& Int64.toUInt64 63)).toInt64) &&& 6148914691236517205)) &&& 3689348814741910323) + ((((L - (((L.toUInt64 >>> ((1 : Int32).toInt64.toUInt64 &&& Int64.toUInt64 63)).toInt64) &&& 6148914691236517205)).toUInt64 >>> ((2 : Int32).toInt64.toUInt64 &&& Int64.toUInt64 63)).toInt64) &&& 3689348814741910323)) + (((((L - (((L.toUInt64 >>> ((1 : Int32).toInt64.toUInt64 &&& Int64.toUInt64 63)).toInt64) &&& 6148914691236517205)) &&& 3689348814741910323) + ((((L - (((L.toUInt64 >>> ((1 : Int32).toInt64.toUInt64 &&& Int64.toUInt64 63)).toInt64) &&& 6148914691236517205)).toUInt64 >>> ((2 : Int32).toInt64.toUInt64 &&& Int64.toUInt64 63)).toInt64) &&& 3689348814741910323)).toUInt64 >>> ((4 : Int32).toInt64.toUInt64 &&& Int64.toUInt64 63)).toInt64)) &&& 1085102592571150095).toUInt64 >>> ((8 : Int32).toInt64.toUInt64 &&& Int64.toUInt64 63)).toInt64)).toUInt64 >>> ((16 : Int32).toInt64.toUInt64 &&& Int64.toUInt64 63)).toInt64)).toUInt64 >>> ((32 : Int32).toInt64.toUInt64 &&& Int64.toUInt64 63)).toInt64) hx hb dJ13_bitCount_95d88_52 rfl ?_
  refine lv_ladd hx hb dJ13_bitCount_95d88_53 ?_
  refine lv_lstore_n (lv' := [(0, .long ((((((((L - (((L.toUInt64 >>> ((1 : Int32).toInt64.toUInt64 &&& Int64.toUInt64 63)).toInt64) &&& 6148914691236517205)) &&& 3689348814741910323) + ((((L - (((L.toUInt64 >>> ((1 : Int32).toInt64.toUInt64 &&& Int64.toUInt64 63)).toInt64) &&& 6148914691236517205)).toUInt64 >>> ((2 : Int32).toInt64.toUInt64 &&& Int64.toUInt64 63)).toInt64) &&& 3689348814741910323)) + (((((L - (((L.toUInt64 >>> ((1 : Int32).toInt64.toUInt64 &&& Int64.toUInt64 63)).toInt64) &&& 6148914691236517205)) &&& 3689348814741910323) + ((((L - (((L.toUInt64 >>> ((1 : Int32).toInt64.toUInt64 &&& Int64.toUInt64 63)).toInt64) &&& 6148914691236517205)).toUInt64 >>> ((2 : Int32).toInt64.toUInt64 &&& Int64.toUInt64 63)).toInt64) &&& 3689348814741910323)).toUInt64 >>> ((4 : Int32).toInt64.toUInt64 &&& Int64.toUInt64 63)).toInt64)) &&& 1085102592571150095) + (((((((L - (((L.toUInt64 >>> ((1 : Int32).toInt64.toUInt64 &&& Int64.toUInt64 63)).toInt64) &&& 6148914691236517205)) &&& 3689348814741910323) + ((((L - (((L.toUInt64 >>> ((1 : Int32).toInt64.toUInt64 &&& Int64.toUInt64 63)).toInt64) &&& 6148914691236517205)).toUInt64 >>> ((2 : Int32).toInt64.toUInt64 &&& Int64.toUInt64 63)).toInt64) &&& 3689348814741910323)) + (((((L - (((L.toUInt64 >>> ((1 : Int32).toInt64.toUInt64 &&& Int64.toUInt64 63)).toInt64) &&& 6148914691236517205)) &&& 3689348814741910323) + ((((L - (((L.toUInt64 >>> ((1 : Int32).toInt64.toUInt64 &&& Int64.toUInt64 63)).toInt64) &&& 6148914691236517205)).toUInt64 >>> ((2 : Int32).toInt64.toUInt64 &&& Int64.toUInt64 63)).toInt64) &&& 3689348814741910323)).toUInt64 >>> ((4 : Int32).toInt64.toUInt64 &&& Int64.toUInt64 63)).toInt64)) &&& 1085102592571150095).toUInt64 >>> ((8 : Int32).toInt64.toUInt64 &&& Int64.toUInt64 63)).toInt64)) + ((((((((L - (((L.toUInt64 >>> ((1 : Int32).toInt64.toUInt64 &&& Int64.toUInt64 63)).toInt64) &&& 6148914691236517205)) &&& 3689348814741910323) + ((((L - (((L.toUInt64 >>> ((1 : Int32).toInt64.toUInt64 &&& Int64.toUInt64 63)).toInt64) &&& 6148914691236517205)).toUInt64 >>> ((2 : Int32).toInt64.toUInt64 &&& Int64.toUInt64 63)).toInt64) &&& 3689348814741910323)) + (((((L - (((L.toUInt64 >>> ((1 : Int32).toInt64.toUInt64 &&& Int64.toUInt64 63)).toInt64) &&& 6148914691236517205)) &&& 3689348814741910323) + ((((L - (((L.toUInt64 >>> ((1 : Int32).toInt64.toUInt64 &&& Int64.toUInt64 63)).toInt64) &&& 6148914691236517205)).toUInt64 >>> ((2 : Int32).toInt64.toUInt64 &&& Int64.toUInt64 63)).toInt64) &&& 3689348814741910323)).toUInt64 >>> ((4 : Int32).toInt64.toUInt64 &&& Int64.toUInt64 63)).toInt64)) &&& 1085102592571150095) + (((((((L - (((L.toUInt64 >>> ((1 : Int32).toInt64.toUInt64 &&& Int64.toUInt64 63)).toInt64) &&& 6148914691236517205)) &&& 3689348814741910323) + ((((L - (((L.toUInt64 >>> ((1 : Int32).toInt64.toUInt64 &&& Int64.toUInt64 63)).toInt64) &&& 6148914691236517205)).toUInt64 >>> ((2 : Int32).toInt64.toUInt64 &&& Int64.toUInt64 63)).toInt64) &&& 3689348814741910323)) + (((((L - (((L.toUInt64 >>> ((1 : Int32).toInt64.toUInt64 &&& Int64.toUInt64 63)).toInt64) &&& 6148914691236517205)) &&& 3689348814741910323) + ((((L - (((L.toUInt64 >>> ((1 : Int32).toInt64.toUInt64 &&& Int64.toUInt64 63)).toInt64) &&& 6148914691236517205)).toUInt64 >>> ((2 : Int32).toInt64.toUInt64 &&& Int64.toUInt64 63)).toInt64) &&& 3689348814741910323)).toUInt64 >>> ((4 : Int32).toInt64.toUInt64 &&& Int64.toUInt64 63)).toInt64)) &&& 1085102592571150095).toUInt64 >>> ((8 : Int32).toInt64.toUInt64 &&& Int64.toUInt64 63)).toInt64)).toUInt64 >>> ((16 : Int32).toInt64.toUInt64 &&& Int64.toUInt64 63)).toInt64)) + (((((((((L - (((L.toUInt64 >>> ((1 : Int32).toInt64.toUInt64 &&& Int64.toUInt64 63)).toInt64) &&& 6148914691236517205)) &&& 3689348814741910323) + ((((L - (((L.toUInt64 >>> ((1 : Int32).toInt64.toUInt64 &&& Int64.toUInt64 63)).toInt64) &&& 6148914691236517205)).toUInt64 >>> ((2 : Int32).toInt64.toUInt64 &&& Int64.toUInt64 63)).toInt64) &&& 3689348814741910323)) + (((((L - (((L.toUInt64 >>> ((1 : Int32).toInt64.toUInt64 &&& Int64.toUInt64 63)).toInt64) &&& 6148914691236517205)) &&& 3689348814741910323) + ((((L - (((L.toUInt64 >>> ((1 : Int32).toInt64.toUInt64 &&& Int64.toUInt64 63)).toInt64) &&& 6148914691236517205)).toUInt64 >>> ((2 : Int32).toInt64.toUInt64 &&& Int64.toUInt64 63)).toInt64) &&& 3689348814741910323)).toUInt64 >>> ((4 : Int32).toInt64.toUInt64 &&& Int64.toUInt64 63)).toInt64)) &&& 1085102592571150095) + (((((((L - (((L.toUInt64 >>> ((1 : Int32).toInt64.toUInt64 &&& Int64.toUInt64 63)).toInt64) &&& 6148914691236517205)) &&& 3689348814741910323) + ((((L - (((L.toUInt64 >>> ((1 : Int32).toInt64.toUInt64 &&& Int64.toUInt64 63)).toInt64) &&& 6148914691236517205)).toUInt64 >>> ((2 : Int32).toInt64.toUInt64 &&& Int64.toUInt64 63)).toInt64) &&& 3689348814741910323)) + (((((L - (((L.toUInt64 >>> ((1 : Int32).toInt64.toUInt64 &&& Int64.toUInt64 63)).toInt64) &&& 6148914691236517205)) &&& 3689348814741910323) + ((((L - (((L.toUInt64 >>> ((1 : Int32).toInt64.toUInt64 &&& Int64.toUInt64 63)).toInt64) &&& 6148914691236517205)).toUInt64 >>> ((2 : Int32).toInt64.toUInt64 &&& Int64.toUInt64 63)).toInt64) &&& 3689348814741910323)).toUInt64 >>> ((4 : Int32).toInt64.toUInt64 &&& Int64.toUInt64 63)).toInt64)) &&& 1085102592571150095).toUInt64 >>> ((8 : Int32).toInt64.toUInt64 &&& Int64.toUInt64 63)).toInt64)) + ((((((((L - (((L.toUInt64 >>> ((1 : Int32).toInt64.toUInt64 &&& Int64.toUInt64 63)).toInt64) &&& 6148914691236517205)) &&& 3689348814741910323) + ((((L - (((L.toUInt64 >>> ((1 : Int32).toInt64.toUInt64 &&& Int64.toUInt64 63)).toInt64) &&& 6148914691236517205)).toUInt64 >>> ((2 : Int32).toInt64.toUInt64 &&& Int64.toUInt64 63)).toInt64) &&& 3689348814741910323)) + (((((L - (((L.toUInt64 >>> ((1 : Int32).toInt64.toUInt64 &&& Int64.toUInt64 63)).toInt64) &&& 6148914691236517205)) &&& 3689348814741910323) + ((((L - (((L.toUInt64 >>> ((1 : Int32).toInt64.toUInt64 &&& Int64.toUInt64 63)).toInt64) &&& 6148914691236517205)).toUInt64 >>> ((2 : Int32).toInt64.toUInt64 &&& Int64.toUInt64 63)).toInt64) &&& 3689348814741910323)).toUInt64 >>> ((4 : Int32).toInt64.toUInt64 &&& Int64.toUInt64 63)).toInt64)) &&& 1085102592571150095) + (((((((L - (((L.toUInt64 >>> ((1 : Int32).toInt64.toUInt64 &&& Int64.toUInt64 63)).toInt64) &&& 6148914691236517205)) &&& 3689348814741910323) + ((((L - (((L.toUInt64 >>> ((1 : Int32).toInt64.toUInt64 &&& Int64.toUInt64 63)).toInt64) &&& 6148914691236517205)).toUInt64 >>> ((2 : Int32).toInt64.toUInt64 &&& Int64.toUInt64 63)).toInt64) &&& 3689348814741910323)) + (((((L - (((L.toUInt64 >>> ((1 : Int32).toInt64.toUInt64 &&& Int64.toUInt64 63)).toInt64) &&& 6148914691236517205)) &&& 3689348814741910323) + ((((L - (((L.toUInt64 >>> ((1 : Int32).toInt64.toUInt64 &&& Int64.toUInt64 63)).toInt64) &&& 6148914691236517205)).toUInt64 >>> ((2 : Int32).toInt64.toUInt64 &&& Int64.toUInt64 63)).toInt64) &&& 3689348814741910323)).toUInt64 >>> ((4 : Int32).toInt64.toUInt64 &&& Int64.toUInt64 63)).toInt64)) &&& 1085102592571150095).toUInt64 >>> ((8 : Int32).toInt64.toUInt64 &&& Int64.toUInt64 63)).toInt64)).toUInt64 >>> ((16 : Int32).toInt64.toUInt64 &&& Int64.toUInt64 63)).toInt64)).toUInt64 >>> ((32 : Int32).toInt64.toUInt64 &&& Int64.toUInt64 63)).toInt64)))]) hx hb dJ13_bitCount_95d88_54 rfl hl (by decide) rfl (fun ls hl => ?_)
  refine lv_lload_n hx hb dJ13_bitCount_95d88_55 rfl (lv_at hl 0 rfl) ?_
  refine lv_l2i (v := ((((((((L - (((L.toUInt64 >>> ((1 : Int32).toInt64.toUInt64 &&& Int64.toUInt64 63)).toInt64) &&& 6148914691236517205)) &&& 3689348814741910323) + ((((L - (((L.toUInt64 >>> ((1 : Int32).toInt64.toUInt64 &&& Int64.toUInt64 63)).toInt64) &&& 6148914691236517205)).toUInt64 >>> ((2 : Int32).toInt64.toUInt64 &&& Int64.toUInt64 63)).toInt64) &&& 3689348814741910323)) + (((((L - (((L.toUInt64 >>> ((1 : Int32).toInt64.toUInt64 &&& Int64.toUInt64 63)).toInt64) &&& 6148914691236517205)) &&& 3689348814741910323) + ((((L - (((L.toUInt64 >>> ((1 : Int32).toInt64.toUInt64 &&& Int64.toUInt64 63)).toInt64) &&& 6148914691236517205)).toUInt64 >>> ((2 : Int32).toInt64.toUInt64 &&& Int64.toUInt64 63)).toInt64) &&& 3689348814741910323)).toUInt64 >>> ((4 : Int32).toInt64.toUInt64 &&& Int64.toUInt64 63)).toInt64)) &&& 1085102592571150095) + (((((((L - (((L.toUInt64 >>> ((1 : Int32).toInt64.toUInt64 &&& Int64.toUInt64 63)).toInt64) &&& 6148914691236517205)) &&& 3689348814741910323) + ((((L - (((L.toUInt64 >>> ((1 : Int32).toInt64.toUInt64 &&& Int64.toUInt64 63)).toInt64) &&& 6148914691236517205)).toUInt64 >>> ((2 : Int32).toInt64.toUInt64 &&& Int64.toUInt64 63)).toInt64) &&& 3689348814741910323)) + (((((L - (((L.toUInt64 >>> ((1 : Int32).toInt64.toUInt64 &&& Int64.toUInt64 63)).toInt64) &&& 6148914691236517205)) &&& 3689348814741910323) + ((((L - (((L.toUInt64 >>> ((1 : Int32).toInt64.toUInt64 &&& Int64.toUInt64 63)).toInt64) &&& 6148914691236517205)).toUInt64 >>> ((2 : Int32).toInt64.toUInt64 &&& Int64.toUInt64 63)).toInt64) &&& 3689348814741910323)).toUInt64 >>> ((4 : Int32).toInt64.toUInt64 &&& Int64.toUInt64 63)).toInt64)) &&& 1085102592571150095).toUInt64 >>> ((8 : Int32).toInt64.toUInt64 &&& Int64.toUInt64 63)).toInt64)) + ((((((((L - (((L.toUInt64 >>> ((1 : Int32).toInt64.toUInt64 &&& Int64.toUInt64 63)).toInt64) &&& 6148914691236517205)) &&& 3689348814741910323) + ((((L - (((L.toUInt64 >>> ((1 : Int32).toInt64.toUInt64 &&& Int64.toUInt64 63)).toInt64) &&& 6148914691236517205)).toUInt64 >>> ((2 : Int32).toInt64.toUInt64 &&& Int64.toUInt64 63)).toInt64) &&& 3689348814741910323)) + (((((L - (((L.toUInt64 >>> ((1 : Int32).toInt64.toUInt64 &&& Int64.toUInt64 63)).toInt64) &&& 6148914691236517205)) &&& 3689348814741910323) + ((((L - (((L.toUInt64 >>> ((1 : Int32).toInt64.toUInt64 &&& Int64.toUInt64 63)).toInt64) &&& 6148914691236517205)).toUInt64 >>> ((2 : Int32).toInt64.toUInt64 &&& Int64.toUInt64 63)).toInt64) &&& 3689348814741910323)).toUInt64 >>> ((4 : Int32).toInt64.toUInt64 &&& Int64.toUInt64 63)).toInt64)) &&& 1085102592571150095) + (((((((L - (((L.toUInt64 >>> ((1 : Int32).toInt64.toUInt64 &&& Int64.toUInt64 63)).toInt64) &&& 6148914691236517205)) &&& 3689348814741910323) + ((((L - (((L.toUInt64 >>> ((1 : Int32).toInt64.toUInt64 &&& Int64.toUInt64 63)).toInt64) &&& 6148914691236517205)).toUInt64 >>> ((2 : Int32).toInt64.toUInt64 &&& Int64.toUInt64 63)).toInt64) &&& 3689348814741910323)) + (((((L - (((L.toUInt64 >>> ((1 : Int32).toInt64.toUInt64 &&& Int64.toUInt64 63)).toInt64) &&& 6148914691236517205)) &&& 3689348814741910323) + ((((L - (((L.toUInt64 >>> ((1 : Int32).toInt64.toUInt64 &&& Int64.toUInt64 63)).toInt64) &&& 6148914691236517205)).toUInt64 >>> ((2 : Int32).toInt64.toUInt64 &&& Int64.toUInt64 63)).toInt64) &&& 3689348814741910323)).toUInt64 >>> ((4 : Int32).toInt64.toUInt64 &&& Int64.toUInt64 63)).toInt64)) &&& 1085102592571150095).toUInt64 >>> ((8 : Int32).toInt64.toUInt64 &&& Int64.toUInt64 63)).toInt64)).toUInt64 >>> ((16 : Int32).toInt64.toUInt64 &&& Int64.toUInt64 63)).toInt64)) + (((((((((L - (((L.toUInt64 >>> ((1 : Int32).toInt64.toUInt64 &&& Int64.toUInt64 63)).toInt64) &&& 6148914691236517205)) &&& 3689348814741910323) + ((((L - (((L.toUInt64 >>> ((1 : Int32).toInt64.toUInt64 &&& Int64.toUInt64 63)).toInt64) &&& 6148914691236517205)).toUInt64 >>> ((2 : Int32).toInt64.toUInt64 &&& Int64.toUInt64 63)).toInt64) &&& 3689348814741910323)) + (((((L - (((L.toUInt64 >>> ((1 : Int32).toInt64.toUInt64 &&& Int64.toUInt64 63)).toInt64) &&& 6148914691236517205)) &&& 3689348814741910323) + ((((L - (((L.toUInt64 >>> ((1 : Int32).toInt64.toUInt64 &&& Int64.toUInt64 63)).toInt64) &&& 6148914691236517205)).toUInt64 >>> ((2 : Int32).toInt64.toUInt64 &&& Int64.toUInt64 63)).toInt64) &&& 3689348814741910323)).toUInt64 >>> ((4 : Int32).toInt64.toUInt64 &&& Int64.toUInt64 63)).toInt64)) &&& 1085102592571150095) + (((((((L - (((L.toUInt64 >>> ((1 : Int32).toInt64.toUInt64 &&& Int64.toUInt64 63)).toInt64) &&& 6148914691236517205)) &&& 3689348814741910323) + ((((L - (((L.toUInt64 >>> ((1 : Int32).toInt64.toUInt64 &&& Int64.toUInt64 63)).toInt64) &&& 6148914691236517205)).toUInt64 >>> ((2 : Int32).toInt64.toUInt64 &&& Int64.toUInt64 63)).toInt64) &&& 3689348814741910323)) + (((((L - (((L.toUInt64 >>> ((1 : Int32).toInt64.toUInt64 &&& Int64.toUInt64 63)).toInt64) &&& 6148914691236517205)) &&& 3689348814741910323) + ((((L - (((L.toUInt64 >>> ((1 : Int32).toInt64.toUInt64 &&& Int64.toUInt64 63)).toInt64) &&& 6148914691236517205)).toUInt64 >>> ((2 : Int32).toInt64.toUInt64 &&& Int64.toUInt64 63)).toInt64) &&& 3689348814741910323)).toUInt64 >>> ((4 : Int32).toInt64.toUInt64 &&& Int64.toUInt64 63)).toInt64)) &&& 1085102592571150095).toUInt64 >>> ((8 : Int32).toInt64.toUInt64 &&& Int64.toUInt64 63)).toInt64)) + ((((((((L - (((L.toUInt64 >>> ((1 : Int32).toInt64.toUInt64 &&& Int64.toUInt64 63)).toInt64) &&& 6148914691236517205)) &&& 3689348814741910323) + ((((L - (((L.toUInt64 >>> ((1 : Int32).toInt64.toUInt64 &&& Int64.toUInt64 63)).toInt64) &&& 6148914691236517205)).toUInt64 >>> ((2 : Int32).toInt64.toUInt64 &&& Int64.toUInt64 63)).toInt64) &&& 3689348814741910323)) + (((((L - (((L.toUInt64 >>> ((1 : Int32).toInt64.toUInt64 &&& Int64.toUInt64 63)).toInt64) &&& 6148914691236517205)) &&& 3689348814741910323) + ((((L - (((L.toUInt64 >>> ((1 : Int32).toInt64.toUInt64 &&& Int64.toUInt64 63)).toInt64) &&& 6148914691236517205)).toUInt64 >>> ((2 : Int32).toInt64.toUInt64 &&& Int64.toUInt64 63)).toInt64) &&& 3689348814741910323)).toUInt64 >>> ((4 : Int32).toInt64.toUInt64 &&& Int64.toUInt64 63)).toInt64)) &&& 1085102592571150095) + (((((((L - (((L.toUInt64 >>> ((1 : Int32).toInt64.toUInt64 &&& Int64.toUInt64 63)).toInt64) &&& 6148914691236517205)) &&& 3689348814741910323) + ((((L - (((L.toUInt64 >>> ((1 : Int32).toInt64.toUInt64 &&& Int64.toUInt64 63)).toInt64) &&& 6148914691236517205)).toUInt64 >>> ((2 : Int32).toInt64.toUInt64 &&& Int64.toUInt64 63)).toInt64) &&& 3689348814741910323)) + (((((L - (((L.toUInt64 >>> ((1 : Int32).toInt64.toUInt64 &&& Int64.toUInt64 63)).toInt64) &&& 6148914691236517205)) &&& 3689348814741910323) + ((((L - (((L.toUInt64 >>> ((1 : Int32).toInt64.toUInt64 &&& Int64.toUInt64 63)).toInt64) &&& 6148914691236517205)).toUInt64 >>> ((2 : Int32).toInt64.toUInt64 &&& Int64.toUInt64 63)).toInt64) &&& 3689348814741910323)).toUInt64 >>> ((4 : Int32).toInt64.toUInt64 &&& Int64.toUInt64 63)).toInt64)) &&& 1085102592571150095).toUInt64 >>> ((8 : Int32).toInt64.toUInt64 &&& Int64.toUInt64 63)).toInt64)).toUInt64 >>> ((16 : Int32).toInt64.toUInt64 &&& Int64.toUInt64 63)).toInt64)).toUInt64 >>> ((32 : Int32).toInt64.toUInt64 &&& Int64.toUInt64 63)).toInt64)).toInt32) hx hb dJ13_bitCount_95d88_56 rfl ?_
  refine lv_bipush (v := 127) hx hb dJ13_bitCount_95d88_57 (by decide) ?_
  refine lv_iand hx hb dJ13_bitCount_95d88_59 ?_
  exact g_iret hx hb hr hlk hS hZ hP hV (Nat.le_of_ble_eq_true rfl) (Nat.le_of_ble_eq_true rfl) dJ13_bitCount_95d88_60 (by rfl) (by rfl)
set_option maxHeartbeats 4000000 in
set_option maxRecDepth 100000 in
theorem c_X2_costOf (l : Launch) (x : Cx) (M : Nat → Nat → Int32) (cn gn dn : Nat) (pn : Nat → Nat) (L : Int64) (mo : Int32) (hO : OkO M cn gn dn pn) : Met l yX2_costOf wsX2_costOf ({ frames := 6, cells := 0, slots := 0, locals := 141 }) (gP x M [.ref (xa x 0), .long L, .int mo]) (gQ x (some (.int (coO M pn cn L mo gn))) M) 0 0 (gF x) := by
  refine g_met (cc := cX2_costOf) (maxL := 6) (ret := some .int) (by decide) rfl (Nat.le_of_ble_eq_true rfl) ?_
  intro p e s m below meth c hx hb hr hml hts hown hlk hS hZ hP hV ls hl
  have hl : lv_has ls 6 [(0, .ref (xa x 0)), (1, .long L), (3, .int mo)] := hl
  have hw_f41 := hts (.fieldLink RX2 41 "CableOffice" "groundCount" "I") (by decide +kernel)
  have hinX2 : ∀ w ∈ wsX20, w ∈ wsX2_costOf := by decide +kernel
  have hw_f37 := hts (.fieldLink RX2 37 "CableOffice" "grounds" "[LCableOffice$Ground;") (by decide +kernel)
  have hw_iX0 := hts (.initialized RX0) (by decide +kernel)
  have hw_imX0_price := hts (.instanceMethod yX0_price) (by decide +kernel)
  have hw_seX0_price := hts (.selects RX0 yX0_price yX0_price) (by decide +kernel)
  have hc8 := hO.c8
  have hg5 := hO.g5
  have hd8 := hO.d8
  refine lv_bipush (v := 10) hx hb dX2_costOf_0 (by decide) ?_
  refine lv_lload_n hx hb dX2_costOf_2 rfl (lv_at hl 1 rfl) ?_
  refine g_call1 (va_runS (As := [.long L]) (rest := [.int 10]) ⟨hx, hb, hml, hown, hts⟩ (c_J13_bitCount l x M L) (va_cwS 1 hts gX2_costOf_J13_bitCount_95d88 rfl rfl rfl (by decide +kernel) ⟨Nat.le_of_ble_eq_true rfl, Nat.le_of_ble_eq_true rfl⟩) (g_preS hS hZ hP hV [.long L]) rfl rfl hl.1 rfl (lv_room (Nat.le_of_ble_eq_true rfl)) dX2_costOf_3 ⟨Nat.le_of_ble_eq_true rfl, Nat.le_of_ble_eq_true rfl⟩) hV (fun H locs hP hV => ?_)
  refine lv_imul hx hb dX2_costOf_6 ?_
  refine lv_istore (lv' := [(4, .int (10 * (bcI L))), (0, .ref (xa x 0)), (1, .long L), (3, .int mo)]) hx hb dX2_costOf_7 hl (by decide) rfl (fun ls hl => ?_)
  refine lv_iconst (v := 0) hx hb dX2_costOf_9 (by decide) ?_
  refine lv_istore (lv' := [(5, .int 0), (4, .int (10 * (bcI L))), (0, .ref (xa x 0)), (1, .long L), (3, .int mo)]) hx hb dX2_costOf_10 hl (by decide) rfl (fun ls hl => ?_)
  have lp_12 : ∀ (nn g : Nat), gn - g < nn → g ≤ gn → ∀ (H : Heap) (locs : List Loc), va_P (xD x) vwCl (wAll x M) H → va_S (gF x) s.heap H locs → ∀ ls : Array Slot, lv_has ls 6 [(5, .int (nI g)), (4, .int (coO M pn cn L mo g)), (0, .ref (xa x 0)), (1, .long L), (3, .int mo)] → W p l e ({ frames := 6, cells := 0, slots := 0, locals := 141 }) s m ([.ref (xa x 0), .long L, .int mo] : List Value).toArray below meth c H locs 0 0 (MQ below (gQ x (some (.int (coO M pn cn L mo gn))) M) ([.ref (xa x 0), .long L, .int mo] : List Value).toArray s 0 0 (gF x)) (F0 m 12 ls []) := by
    intro nn
    induction nn with
    | zero => intro g hz; exact absurd hz (Nat.not_lt_zero _)
    | succ nn ih_12 =>
      intro g hf_12 hk_12  H locs hP hV ls hl
      refine lv_iload hx hb dX2_costOf_12 (lv_at hl 0 rfl) ?_
      refine lv_aload_n hx hb dX2_costOf_14 rfl (lv_at hl 2 rfl) ?_
      refine g_get (C := RX2) (T := TX2) (N := 9) (v := .int (nI gn)) hx hb hts hinX2 hown hS hP (id := 0) (by decide) rfl rfl 7 (by decide) hw_f41 (congrArg (fun z => some (Value.int z)) hO.g) dX2_costOf_15 ?_
      refine h_icmp_ge_n (a := g) (b := gn) (tgt := 58) hx hb (by omega) (by omega) dX2_costOf_18 (by decide) (fun c_1 => ?_) (fun c_1 => ?_)
      · -- taken
        refine lv_iload hx hb dX2_costOf_58 (lv_at hl 1 rfl) ?_
        exact g_iret hx hb hr hlk hS hZ hP hV (Nat.le_of_ble_eq_true rfl) (Nat.le_of_ble_eq_true rfl) dX2_costOf_60 (by rw [show g = gn by omega]) (by rfl)
      · -- on
        refine lv_aload_n hx hb dX2_costOf_21 rfl (lv_at hl 2 rfl) ?_
        refine lv_lload_n hx hb dX2_costOf_22 rfl (lv_at hl 3 rfl) ?_
        refine lv_aload_n hx hb dX2_costOf_23 rfl (lv_at hl 2 rfl) ?_
        refine g_get (C := RX2) (T := TX2) (N := 9) (v := .ref (xa x 5)) hx hb hts hinX2 hown hS hP (id := 0) (by decide) rfl rfl 6 (by decide) hw_f37 rfl dX2_costOf_24 ?_
        refine lv_iload hx hb dX2_costOf_27 (lv_at hl 0 rfl) ?_
        refine g_aaldG (j := g) hx hb hS hP rfl (by omega) dX2_costOf_29 ?_
        refine lv_iload_n hx hb dX2_costOf_30 rfl (lv_at hl 4 rfl) ?_
        refine g_call1 (va_runV (As := [.long L, .ref (xa x (6 + g)), .int mo]) (rest := []) ⟨hx, hb, hml, hown, hts⟩ (c_X2_isOwed l x M cn gn dn pn L g mo hO (by omega)) (cwV 3 hts gX2_costOf_X2_isOwed rfl rfl rfl (by decide +kernel) ⟨Nat.le_of_ble_eq_true rfl, Nat.le_of_ble_eq_true rfl⟩) (g_preV hS hZ hP hV [.long L, .ref (xa x (6 + g)), .int mo] (id := 0) (by decide) rfl rfl) rfl rfl hl.1 rfl (lv_room (Nat.le_of_ble_eq_true rfl)) dX2_costOf_31 ⟨Nat.le_of_ble_eq_true rfl, Nat.le_of_ble_eq_true rfl⟩) hV (fun H locs hP hV => ?_)
        refine h_if_eq_b (tgt := 52) hx hb dX2_costOf_34 (by decide) (fun c_2 => ?_) (fun c_2 => ?_)
        · -- taken
          refine lv_iinc (v := nI (g + 1)) (lv' := [(5, .int (nI (g + 1))), (4, .int (coO M pn cn L mo g)), (0, .ref (xa x 0)), (1, .long L), (3, .int mo)]) hx hb dX2_costOf_52 hl (k := 0) rfl (nI_add (g) 1) (by decide) rfl (fun ls hl => ?_)
          refine lv_goto (tgt := 12) hx hb dX2_costOf_55 (by decide) ?_
          exact ih_12 (g + 1) (by omega) (by omega)  _ _ hP hV ls (lv_sub hl [0, 1, 2, 3, 4] (show ([(5, .int (nI (g + 1))), (4, .int (coO M pn cn L mo g)), (0, .ref (xa x 0)), (1, .long L), (3, .int mo)] : List (Nat × Value)) = [(5, .int (nI (g + 1))), (4, .int (coO M pn cn L mo (g + 1))), (0, .ref (xa x 0)), (1, .long L), (3, .int mo)] from by simp [coO, c_1, c_2]))
        · -- on
          refine lv_iload hx hb dX2_costOf_37 (lv_at hl 1 rfl) ?_
          refine lv_aload_n hx hb dX2_costOf_39 rfl (lv_at hl 2 rfl) ?_
          refine g_get (C := RX2) (T := TX2) (N := 9) (v := .ref (xa x 5)) hx hb hts hinX2 hown hS hP (id := 0) (by decide) rfl rfl 6 (by decide) hw_f37 rfl dX2_costOf_40 ?_
          refine lv_iload hx hb dX2_costOf_43 (lv_at hl 0 rfl) ?_
          refine g_aaldG (j := g) hx hb hS hP rfl (by omega) dX2_costOf_45 ?_
          refine g_call1 (va_runVN (As := []) (rest := [.int (coO M pn cn L mo g)]) ⟨hx, hb, hml, hown, hts⟩ (c_X0_price l x M g (by omega)) ⟨va_cnB (host := RX2) 0 hts gX2_costOf_X0_price_n145 rfl rfl rfl (hS.2.2.2.2.1 _ (by decide +kernel)) hw_iX0 (by decide +kernel) ⟨Nat.le_of_ble_eq_true rfl, Nat.le_of_ble_eq_true rfl⟩, hw_imX0_price, hw_seX0_price⟩ (g_preV hS hZ hP hV [] (id := 6 + g) (by omega) (sh_g x _ (by omega)) rfl) rfl rfl hl.1 rfl (lv_room (Nat.le_of_ble_eq_true rfl)) dX2_costOf_46 ⟨Nat.le_of_ble_eq_true rfl, Nat.le_of_ble_eq_true rfl⟩) hV (fun H locs hP hV => ?_)
          refine lv_iadd hx hb dX2_costOf_49 ?_
          refine lv_istore (lv' := [(4, .int ((coO M pn cn L mo g) + (prO (M (6 + g) 6) (M (6 + g) 7)))), (5, .int (nI g)), (0, .ref (xa x 0)), (1, .long L), (3, .int mo)]) hx hb dX2_costOf_50 hl (by decide) rfl (fun ls hl => ?_)
          refine lv_iinc (v := nI (g + 1)) (lv' := [(5, .int (nI (g + 1))), (4, .int ((coO M pn cn L mo g) + (prO (M (6 + g) 6) (M (6 + g) 7)))), (0, .ref (xa x 0)), (1, .long L), (3, .int mo)]) hx hb dX2_costOf_52 hl (k := 1) rfl (nI_add (g) 1) (by decide) rfl (fun ls hl => ?_)
          refine lv_goto (tgt := 12) hx hb dX2_costOf_55 (by decide) ?_
          exact ih_12 (g + 1) (by omega) (by omega)  _ _ hP hV ls (lv_sub hl [0, 1, 2, 3, 4] (show ([(5, .int (nI (g + 1))), (4, .int ((coO M pn cn L mo g) + (prO (M (6 + g) 6) (M (6 + g) 7)))), (0, .ref (xa x 0)), (1, .long L), (3, .int mo)] : List (Nat × Value)) = [(5, .int (nI (g + 1))), (4, .int (coO M pn cn L mo (g + 1))), (0, .ref (xa x 0)), (1, .long L), (3, .int mo)] from by simp [coO, c_1, c_2]))
  exact lp_12 (gn - (0) + 1) (0) (by omega) (by omega)  _ _ hP hV ls (lv_sub hl [0, 1, 2, 3, 4] (show ([(5, .int 0), (4, .int (10 * (bcI L))), (0, .ref (xa x 0)), (1, .long L), (3, .int mo)] : List (Nat × Value)) = [(5, .int 0), (4, .int (coO M pn cn L mo 0)), (0, .ref (xa x 0)), (1, .long L), (3, .int mo)] from by rfl))
set_option maxHeartbeats 4000000 in
set_option maxRecDepth 100000 in
theorem c_X2_payGrounds (l : Launch) (x : Cx) (M : Nat → Nat → Int32) (cn gn dn : Nat) (pn : Nat → Nat) (L : Int64) (mo : Int32) (hO : OkO M cn gn dn pn) : Met l yX2_payGrounds wsX2_payGrounds ({ frames := 6, cells := 0, slots := 0, locals := 141 }) (gP x M [.ref (xa x 0), .long L, .int mo]) (gQ x none (pgM M pn cn L mo gn)) 0 0 (gF x) := by
  refine g_met (cc := cX2_payGrounds) (maxL := 5) (ret := none) (by decide) rfl (Nat.le_of_ble_eq_true rfl) ?_
  intro p e s m below meth c hx hb hr hml hts hown hlk hS hZ hP hV ls hl
  have hl : lv_has ls 5 [(0, .ref (xa x 0)), (1, .long L), (3, .int mo)] := hl
  have hw_f41 := hts (.fieldLink RX2 41 "CableOffice" "groundCount" "I") (by decide +kernel)
  have hinX2 : ∀ w ∈ wsX20, w ∈ wsX2_payGrounds := by decide +kernel
  have hw_f37 := hts (.fieldLink RX2 37 "CableOffice" "grounds" "[LCableOffice$Ground;") (by decide +kernel)
  have hinX0 : ∀ w ∈ wsX00, w ∈ wsX2_payGrounds := by decide +kernel
  have hw_iX0 := hts (.initialized RX0) (by decide +kernel)
  have hw_imX0_price := hts (.instanceMethod yX0_price) (by decide +kernel)
  have hw_seX0_price := hts (.selects RX0 yX0_price yX0_price) (by decide +kernel)
  have hc8 := hO.c8
  have hg5 := hO.g5
  have hd8 := hO.d8
  refine lv_iconst (v := 0) hx hb dX2_payGrounds_0 (by decide) ?_
  refine lv_istore (lv' := [(4, .int 0), (0, .ref (xa x 0)), (1, .long L), (3, .int mo)]) hx hb dX2_payGrounds_1 hl (by decide) rfl (fun ls hl => ?_)
  have lp_3 : ∀ (nn g : Nat), gn - g < nn → g ≤ gn → ∀ (H : Heap) (locs : List Loc), va_P (xD x) vwCl (wAll x (pgM M pn cn L mo g)) H → va_S (gF x) s.heap H locs → ∀ ls : Array Slot, lv_has ls 5 [(4, .int (nI g)), (0, .ref (xa x 0)), (1, .long L), (3, .int mo)] → W p l e ({ frames := 6, cells := 0, slots := 0, locals := 141 }) s m ([.ref (xa x 0), .long L, .int mo] : List Value).toArray below meth c H locs 0 0 (MQ below (gQ x none (pgM M pn cn L mo gn)) ([.ref (xa x 0), .long L, .int mo] : List Value).toArray s 0 0 (gF x)) (F0 m 3 ls []) := by
    intro nn
    induction nn with
    | zero => intro g hz; exact absurd hz (Nat.not_lt_zero _)
    | succ nn ih_3 =>
      intro g hf_3 hk_3  H locs hP hV ls hl
      have hOg : OkO (pgM M pn cn L mo g) cn gn dn pn := pgM_ok hO g hk_3
      refine lv_iload hx hb dX2_payGrounds_3 (lv_at hl 0 rfl) ?_
      refine lv_aload_n hx hb dX2_payGrounds_5 rfl (lv_at hl 1 rfl) ?_
      refine g_get (C := RX2) (T := TX2) (N := 9) (v := .int (nI gn)) hx hb hts hinX2 hown hS hP (id := 0) (by decide) rfl rfl 7 (by decide) hw_f41 (congrArg (fun z => some (Value.int z)) hOg.g) dX2_payGrounds_6 ?_
      refine h_icmp_ge_n (a := g) (b := gn) (tgt := 59) hx hb (by omega) (by omega) dX2_payGrounds_9 (by decide) (fun c_1 => ?_) (fun c_1 => ?_)
      · -- taken
        exact g_vret hx hb hr hlk hS hZ hP hV (Nat.le_of_ble_eq_true rfl) (Nat.le_of_ble_eq_true rfl) dX2_payGrounds_59 (by rw [show g = gn by omega])
      · -- on
        refine lv_aload_n hx hb dX2_payGrounds_12 rfl (lv_at hl 1 rfl) ?_
        refine lv_lload_n hx hb dX2_payGrounds_13 rfl (lv_at hl 2 rfl) ?_
        refine lv_aload_n hx hb dX2_payGrounds_14 rfl (lv_at hl 1 rfl) ?_
        refine g_get (C := RX2) (T := TX2) (N := 9) (v := .ref (xa x 5)) hx hb hts hinX2 hown hS hP (id := 0) (by decide) rfl rfl 6 (by decide) hw_f37 rfl dX2_payGrounds_15 ?_
        refine lv_iload hx hb dX2_payGrounds_18 (lv_at hl 0 rfl) ?_
        refine g_aaldG (j := g) hx hb hS hP rfl (by omega) dX2_payGrounds_20 ?_
        refine lv_iload_n hx hb dX2_payGrounds_21 rfl (lv_at hl 3 rfl) ?_
        refine g_call1 (va_runV (As := [.long L, .ref (xa x (6 + g)), .int mo]) (rest := []) ⟨hx, hb, hml, hown, hts⟩ (c_X2_isOwed l x (pgM M pn cn L mo g) cn gn dn pn L g mo hOg (by omega)) (cwV 3 hts gX2_payGrounds_X2_isOwed rfl rfl rfl (by decide +kernel) ⟨Nat.le_of_ble_eq_true rfl, Nat.le_of_ble_eq_true rfl⟩) (g_preV hS hZ hP hV [.long L, .ref (xa x (6 + g)), .int mo] (id := 0) (by decide) rfl rfl) rfl rfl hl.1 rfl (lv_room (Nat.le_of_ble_eq_true rfl)) dX2_payGrounds_22 ⟨Nat.le_of_ble_eq_true rfl, Nat.le_of_ble_eq_true rfl⟩) hV (fun H locs hP hV => ?_)
        refine h_if_eq_b (tgt := 53) hx hb dX2_payGrounds_25 (by decide) (fun c_2 => ?_) (fun c_2 => ?_)
        · -- taken
          refine lv_iinc (v := nI (g + 1)) (lv' := [(4, .int (nI (g + 1))), (0, .ref (xa x 0)), (1, .long L), (3, .int mo)]) hx hb dX2_payGrounds_53 hl (k := 0) rfl (nI_add (g) 1) (by decide) rfl (fun ls hl => ?_)
          refine lv_goto (tgt := 3) hx hb dX2_payGrounds_56 (by decide) ?_
          exact ih_3 (g + 1) (by omega) (by omega)  _ _ (show va_P (xD x) vwCl (wAll x (pgM M pn cn L mo (g + 1))) _ from by simp only [pgM, if_pos, if_neg, reduceCtorEq, if_false, c_1, c_2]; exact hP) hV ls (lv_sub hl [0, 1, 2, 3] rfl)
        · -- on
          refine lv_aload_n hx hb dX2_payGrounds_28 rfl (lv_at hl 1 rfl) ?_
          refine g_get (C := RX2) (T := TX2) (N := 9) (v := .ref (xa x 5)) hx hb hts hinX2 hown hS hP (id := 0) (by decide) rfl rfl 6 (by decide) hw_f37 rfl dX2_payGrounds_29 ?_
          refine lv_iload hx hb dX2_payGrounds_32 (lv_at hl 0 rfl) ?_
          refine g_aaldG (j := g) hx hb hS hP rfl (by omega) dX2_payGrounds_34 ?_
          refine lv_dup hx hb dX2_payGrounds_35 rfl ?_
          refine g_getN (C := RX0) (T := TX0) (N := 9) (host := RX2) (v := .int ((pgM M pn cn L mo g) (6 + g) 8)) hx hb hts hinX0 hown hS hP (id := 6 + g) (by omega) (sh_g x _ (by omega)) rfl 8 (by decide) (by decide +kernel) rfl dX2_payGrounds_36 ?_
          refine lv_aload_n hx hb dX2_payGrounds_39 rfl (lv_at hl 1 rfl) ?_
          refine g_get (C := RX2) (T := TX2) (N := 9) (v := .ref (xa x 5)) hx hb hts hinX2 hown hS hP (id := 0) (by decide) rfl rfl 6 (by decide) hw_f37 rfl dX2_payGrounds_40 ?_
          refine lv_iload hx hb dX2_payGrounds_43 (lv_at hl 0 rfl) ?_
          refine g_aaldG (j := g) hx hb hS hP rfl (by omega) dX2_payGrounds_45 ?_
          refine g_call1 (va_runVN (As := []) (rest := [.int ((pgM M pn cn L mo g) (6 + g) 8), .ref (xa x (6 + g))]) ⟨hx, hb, hml, hown, hts⟩ (c_X0_price l x (pgM M pn cn L mo g) g (by omega)) ⟨va_cnB (host := RX2) 0 hts gX2_payGrounds_X0_price_n145 rfl rfl rfl (hS.2.2.2.2.1 _ (by decide +kernel)) hw_iX0 (by decide +kernel) ⟨Nat.le_of_ble_eq_true rfl, Nat.le_of_ble_eq_true rfl⟩, hw_imX0_price, hw_seX0_price⟩ (g_preV hS hZ hP hV [] (id := 6 + g) (by omega) (sh_g x _ (by omega)) rfl) rfl rfl hl.1 rfl (lv_room (Nat.le_of_ble_eq_true rfl)) dX2_payGrounds_46 ⟨Nat.le_of_ble_eq_true rfl, Nat.le_of_ble_eq_true rfl⟩) hV (fun H locs hP hV => ?_)
          refine lv_iadd hx hb dX2_payGrounds_49 ?_
          refine g_putN (C := RX0) (T := TX0) (N := 9) (host := RX2) hx hb hts hinX0 tyX0 tyX0_ok nmX0 hown hS hP hV (id := 6 + g) (by omega) (sh_g x _ (by omega)) rfl 8 (by decide) (by decide +kernel) rfl (by decide +kernel) (Nat.le_of_ble_eq_true rfl) ((sh_g x _ (by omega)).trans rfl) dX2_payGrounds_50 (fun H locs hP hV => ?_)
          refine lv_iinc (v := nI (g + 1)) (lv' := [(4, .int (nI (g + 1))), (0, .ref (xa x 0)), (1, .long L), (3, .int mo)]) hx hb dX2_payGrounds_53 hl (k := 0) rfl (nI_add (g) 1) (by decide) rfl (fun ls hl => ?_)
          refine lv_goto (tgt := 3) hx hb dX2_payGrounds_56 (by decide) ?_
          exact ih_3 (g + 1) (by omega) (by omega)  _ _ (show va_P (xD x) vwCl (wAll x (pgM M pn cn L mo (g + 1))) _ from by simp only [pgM, if_pos, if_neg, reduceCtorEq, if_false, c_1, c_2]; exact hP) hV ls (lv_sub hl [0, 1, 2, 3] rfl)
  exact lp_3 (gn - (0) + 1) (0) (by omega) (by omega)  _ _ (show va_P (xD x) vwCl (wAll x (pgM M pn cn L mo 0)) _ from by exact hP) hV ls (lv_sub hl [0, 1, 2, 3] rfl)
end
