set_option maxHeartbeats 4000000 in
set_option maxRecDepth 100000 in
theorem c_X2_pairOf (l : Launch) (x : Cx) (M : Nat → Nat → Int32) (a b : Nat) (ha : a < 8) (hb8 : b < 8) : Met l yX2_pairOf wsX2_pairOf ({ frames := 1, cells := 0, slots := 0, locals := 21 }) (gP x M [.int (nI a), .int (nI b)]) (gQ x (some (.int (nI (pr a b)))) M) 0 0 (gF x) := by
  refine g_met (cc := cX2_pairOf) (maxL := 2) (ret := some .int) (by decide) rfl (Nat.le_of_ble_eq_true rfl) ?_
  intro p e s m below meth c hx hb hr hml hts hown hlk hS hZ hP hV ls hl
  have hl : lv_has ls 2 [(0, .int (nI a)), (1, .int (nI b))] := hl
  have hw_m207 := hts (.methodLink RX2 207 Lib.Math.min.name) (by decide +kernel)
  have hw_smin := hts (.static Lib.Math.min.name) (by decide +kernel)
  have hw_iMath := hts (.initialized "java/lang/Math") (by decide +kernel)
  have hw_cmin := hts (.code Lib.Math.min.name Lib.Math.min.code 2 (some .int)) (by decide +kernel)
  have hw_m212 := hts (.methodLink RX2 212 Lib.Math.max.name) (by decide +kernel)
  have hw_smax := hts (.static Lib.Math.max.name) (by decide +kernel)
  have hw_cmax := hts (.code Lib.Math.max.name Lib.Math.max.code 2 (some .int)) (by decide +kernel)
  refine lv_bipush (v := 8) hx hb dX2_pairOf_0 (by decide) ?_
  refine lv_iload_n hx hb dX2_pairOf_2 rfl (lv_at hl 0 rfl) ?_
  refine lv_iload_n hx hb dX2_pairOf_3 rfl (lv_at hl 1 rfl) ?_
  refine h_min hx hb (hml.trans hl.1.symm) hown hw_m207 hw_smin hw_iMath hw_cmin (Nat.le_of_ble_eq_true rfl) (Nat.le_of_ble_eq_true rfl) (Nat.le_of_ble_eq_true rfl) (Nat.le_of_ble_eq_true rfl) dX2_pairOf_4 ?_
  refine lv_imul hx hb dX2_pairOf_7 ?_
  refine lv_iload_n hx hb dX2_pairOf_8 rfl (lv_at hl 0 rfl) ?_
  refine lv_iload_n hx hb dX2_pairOf_9 rfl (lv_at hl 1 rfl) ?_
  refine h_max hx hb (hml.trans hl.1.symm) hown hw_m212 hw_smax hw_iMath hw_cmax (Nat.le_of_ble_eq_true rfl) (Nat.le_of_ble_eq_true rfl) (Nat.le_of_ble_eq_true rfl) (Nat.le_of_ble_eq_true rfl) dX2_pairOf_10 ?_
  refine lv_iadd hx hb dX2_pairOf_13 ?_
  exact g_iret hx hb hr hlk hS hZ hP hV (Nat.le_of_ble_eq_true rfl) (Nat.le_of_ble_eq_true rfl) dX2_pairOf_14 (by exact pr_nI ha hb8) (by rfl)
set_option maxHeartbeats 4000000 in
set_option maxRecDepth 100000 in
theorem c_X2_bitOf (l : Launch) (x : Cx) (M : Nat → Nat → Int32) (a b : Nat) : Met l yX2_bitOf wsX2_bitOf ({ frames := 0, cells := 0, slots := 0, locals := 0 }) (gP x M [.int (nI a), .int (nI b)]) (gQ x (some (.long (bitL (8 * a + b)))) M) 0 0 (gF x) := by
  refine g_met (cc := cX2_bitOf) (maxL := 2) (ret := some .long) (by decide) rfl (Nat.le_of_ble_eq_true rfl) ?_
  intro p e s m below meth c hx hb hr hml hts hown hlk hS hZ hP hV ls hl
  have hl : lv_has ls 2 [(0, .int (nI a)), (1, .int (nI b))] := hl
  refine lv_lconst (v := 1) hx hb dX2_bitOf_0 (by decide) ?_
  refine lv_bipush (v := 8) hx hb dX2_bitOf_1 (by decide) ?_
  refine lv_iload_n hx hb dX2_bitOf_3 rfl (lv_at hl 0 rfl) ?_
  refine h_imul (v := nI (8 * a)) hx hb dX2_bitOf_4 (pk_mul (8) (a)) ?_
  refine lv_iload_n hx hb dX2_bitOf_5 rfl (lv_at hl 1 rfl) ?_
  refine h_iadd (v := nI (8 * a + b)) hx hb dX2_bitOf_6 (nI_add (8 * a) (b)) ?_
  refine lv_lshl (v := bitL (8 * a + b)) hx hb dX2_bitOf_7 rfl ?_
  exact g_lret hx hb hr hlk hS hZ hP hV (Nat.le_of_ble_eq_true rfl) (Nat.le_of_ble_eq_true rfl) dX2_bitOf_8 (by rfl) (by rfl)
set_option maxHeartbeats 4000000 in
set_option maxRecDepth 100000 in
theorem c_X2_isIn (l : Launch) (x : Cx) (M : Nat → Nat → Int32) (L : Int64) (a b : Nat) : Met l yX2_isIn wsX2_isIn ({ frames := 1, cells := 0, slots := 0, locals := 21 }) (gP x M [.long L, .int (nI a), .int (nI b)]) (gQ x (some (.int (bI (inL L (8 * a + b))))) M) 0 0 (gF x) := by
  refine g_met (cc := cX2_isIn) (maxL := 4) (ret := some .boolean) (by decide) rfl (Nat.le_of_ble_eq_true rfl) ?_
  intro p e s m below meth c hx hb hr hml hts hown hlk hS hZ hP hV ls hl
  have hl : lv_has ls 4 [(0, .long L), (2, .int (nI a)), (3, .int (nI b))] := hl
  refine lv_lload_n hx hb dX2_isIn_0 rfl (lv_at hl 0 rfl) ?_
  refine lv_iload_n hx hb dX2_isIn_1 rfl (lv_at hl 1 rfl) ?_
  refine lv_iload_n hx hb dX2_isIn_2 rfl (lv_at hl 2 rfl) ?_
  refine g_call1 (va_runS (As := [.int (nI a), .int (nI b)]) (rest := [.long L]) ⟨hx, hb, hml, hown, hts⟩ (c_X2_bitOf l x M a b) (va_cwS 2 hts gX2_isIn_X2_bitOf rfl rfl rfl (by decide +kernel) ⟨Nat.le_of_ble_eq_true rfl, Nat.le_of_ble_eq_true rfl⟩) (g_preS hS hZ hP hV [.int (nI a), .int (nI b)]) rfl rfl hl.1 rfl (lv_room (Nat.le_of_ble_eq_true rfl)) dX2_isIn_3 ⟨Nat.le_of_ble_eq_true rfl, Nat.le_of_ble_eq_true rfl⟩) hV (fun H locs hP hV => ?_)
  refine lv_land hx hb dX2_isIn_6 ?_
  refine lv_lconst (v := 0) hx hb dX2_isIn_7 (by decide) ?_
  refine W.lcmp hx hb dX2_isIn_8 ?_
  refine lv_if_eq (tgt := 16) hx hb dX2_isIn_9 (by decide) (fun c_1 => ?_) (fun c_1 => ?_)
  · -- taken
    refine lv_iconst (v := 0) hx hb dX2_isIn_16 (by decide) ?_
    exact g_zret hx hb hr hlk hS hZ hP hV (Nat.le_of_ble_eq_true rfl) (Nat.le_of_ble_eq_true rfl) dX2_isIn_17 (by decide) (by simp [inL, bI, c_1]) (by rfl)
  · -- on
    refine lv_iconst (v := 1) hx hb dX2_isIn_12 (by decide) ?_
    refine lv_goto (tgt := 17) hx hb dX2_isIn_13 (by decide) ?_
    exact g_zret hx hb hr hlk hS hZ hP hV (Nat.le_of_ble_eq_true rfl) (Nat.le_of_ble_eq_true rfl) dX2_isIn_17 (by decide) (by simp [inL, bI, c_1]) (by rfl)
set_option maxHeartbeats 4000000 in
set_option maxRecDepth 100000 in
theorem c_X2_demandPlace (l : Launch) (hlf : l.stackTraces = false) (x : Cx) (M : Nat → Nat → Int32) (px py : Int32) : vx_Met l yX2_demandPlace wsX2_demandPlace ({ frames := 6, cells := 1, slots := 6, locals := 90 }) (gP x M [.int px, .int py]) (gQx x (erPl px py) none M) (gX x (erPl px py) M) 1 6 (gF x) := by
  refine g_metx (cc := cX2_demandPlace) (maxL := 2) (ret := none) (by decide) rfl (Nat.le_of_ble_eq_true rfl) ?_
  intro p e s m below meth c hx hb hr hml hts hown hlk ht hS hZ hP hV ls hl
  have hl : lv_has ls 2 [(0, .int px), (1, .int py)] := hl
  have hw_k113 := hts (.classLink RX2 113 "java/lang/IllegalArgumentException") (by decide +kernel)
  have hw_i113 := hts (.initialized "java/lang/IllegalArgumentException") (by decide +kernel)
  have hat117 := exc_hat (ic := 117) (E := eA) hS (by decide +kernel) exc_h2_117 (fun w hw => hts w (List.mem_cons_of_mem _ (List.mem_append_right _ hw)))
  refine lv_iload_n hx hb dX2_demandPlace_0 rfl (lv_at hl 0 rfl) ?_
  refine lv_if_lt (tgt := 20) hx hb dX2_demandPlace_1 (by decide) (fun c_1 => ?_) (fun c_1 => ?_)
  · -- taken
    exact g_throw (E := eA) (ik := 113) (is := 186) (ic := 117) (text := _) hx hb ht hlf hown (by decide +kernel) hw_k113 hw_i113 (List.mem_of_getElem? (i := 6) rfl) hat117 exc_ot_117 hlk hS hZ hP hV (hl.1.trans hml.symm) dX2_demandPlace_20 dX2_demandPlace_23 dX2_demandPlace_24 dX2_demandPlace_26 dX2_demandPlace_29 (Nat.le_of_ble_eq_true rfl) (Nat.le_of_ble_eq_true rfl) (Nat.le_of_ble_eq_true rfl) (Nat.le_of_ble_eq_true rfl) (Nat.le_of_ble_eq_true rfl) (Nat.le_of_ble_eq_true rfl) (by simp [erPl, c_1]) rfl
  · -- on
    refine lv_iload_n hx hb dX2_demandPlace_4 rfl (lv_at hl 0 rfl) ?_
    refine lv_bipush (v := 99) hx hb dX2_demandPlace_5 (by decide) ?_
    refine lv_icmp_gt (tgt := 20) hx hb dX2_demandPlace_7 (by decide) (fun c_2 => ?_) (fun c_2 => ?_)
    · -- taken
      exact g_throw (E := eA) (ik := 113) (is := 186) (ic := 117) (text := _) hx hb ht hlf hown (by decide +kernel) hw_k113 hw_i113 (List.mem_of_getElem? (i := 6) rfl) hat117 exc_ot_117 hlk hS hZ hP hV (hl.1.trans hml.symm) dX2_demandPlace_20 dX2_demandPlace_23 dX2_demandPlace_24 dX2_demandPlace_26 dX2_demandPlace_29 (Nat.le_of_ble_eq_true rfl) (Nat.le_of_ble_eq_true rfl) (Nat.le_of_ble_eq_true rfl) (Nat.le_of_ble_eq_true rfl) (Nat.le_of_ble_eq_true rfl) (Nat.le_of_ble_eq_true rfl) (by simp [erPl, c_1, c_2]) rfl
    · -- on
      refine lv_iload_n hx hb dX2_demandPlace_10 rfl (lv_at hl 1 rfl) ?_
      refine lv_if_lt (tgt := 20) hx hb dX2_demandPlace_11 (by decide) (fun c_3 => ?_) (fun c_3 => ?_)
      · -- taken
        exact g_throw (E := eA) (ik := 113) (is := 186) (ic := 117) (text := _) hx hb ht hlf hown (by decide +kernel) hw_k113 hw_i113 (List.mem_of_getElem? (i := 6) rfl) hat117 exc_ot_117 hlk hS hZ hP hV (hl.1.trans hml.symm) dX2_demandPlace_20 dX2_demandPlace_23 dX2_demandPlace_24 dX2_demandPlace_26 dX2_demandPlace_29 (Nat.le_of_ble_eq_true rfl) (Nat.le_of_ble_eq_true rfl) (Nat.le_of_ble_eq_true rfl) (Nat.le_of_ble_eq_true rfl) (Nat.le_of_ble_eq_true rfl) (Nat.le_of_ble_eq_true rfl) (by simp [erPl, c_1, c_2, c_3]) rfl
      · -- on
        refine lv_iload_n hx hb dX2_demandPlace_14 rfl (lv_at hl 1 rfl) ?_
        refine lv_bipush (v := 99) hx hb dX2_demandPlace_15 (by decide) ?_
        refine lv_icmp_le (tgt := 30) hx hb dX2_demandPlace_17 (by decide) (fun c_4 => ?_) (fun c_4 => ?_)
        · -- taken
          refine g_mqx (by simp [erPl, c_1, c_2, c_3, c_4]) ?_
          exact g_vret hx hb hr hlk hS hZ hP hV (Nat.le_of_ble_eq_true rfl) (Nat.le_of_ble_eq_true rfl) dX2_demandPlace_30 (by rfl)
        · -- on
          exact g_throw (E := eA) (ik := 113) (is := 186) (ic := 117) (text := _) hx hb ht hlf hown (by decide +kernel) hw_k113 hw_i113 (List.mem_of_getElem? (i := 6) rfl) hat117 exc_ot_117 hlk hS hZ hP hV (hl.1.trans hml.symm) dX2_demandPlace_20 dX2_demandPlace_23 dX2_demandPlace_24 dX2_demandPlace_26 dX2_demandPlace_29 (Nat.le_of_ble_eq_true rfl) (Nat.le_of_ble_eq_true rfl) (Nat.le_of_ble_eq_true rfl) (Nat.le_of_ble_eq_true rfl) (Nat.le_of_ble_eq_true rfl) (Nat.le_of_ble_eq_true rfl) (by simp [erPl, c_1, c_2, c_3, c_4]) rfl
set_option maxHeartbeats 4000000 in
set_option maxRecDepth 100000 in
theorem c_X2_demandMonth (l : Launch) (hlf : l.stackTraces = false) (x : Cx) (M : Nat → Nat → Int32) (mo : Int32) : vx_Met l yX2_demandMonth wsX2_demandMonth ({ frames := 6, cells := 1, slots := 6, locals := 90 }) (gP x M [.int mo]) (gQx x (erMo mo) none M) (gX x (erMo mo) M) 1 6 (gF x) := by
  refine g_metx (cc := cX2_demandMonth) (maxL := 1) (ret := none) (by decide) rfl (Nat.le_of_ble_eq_true rfl) ?_
  intro p e s m below meth c hx hb hr hml hts hown hlk ht hS hZ hP hV ls hl
  have hl : lv_has ls 1 [(0, .int mo)] := hl
  have hw_k113 := hts (.classLink RX2 113 "java/lang/IllegalArgumentException") (by decide +kernel)
  have hw_i113 := hts (.initialized "java/lang/IllegalArgumentException") (by decide +kernel)
  have hat117 := exc_hat (ic := 117) (E := eA) hS (by decide +kernel) exc_h2_117 (fun w hw => hts w (List.mem_cons_of_mem _ (List.mem_append_right _ hw)))
  refine lv_iload_n hx hb dX2_demandMonth_0 rfl (lv_at hl 0 rfl) ?_
  refine lv_if_lt (tgt := 10) hx hb dX2_demandMonth_1 (by decide) (fun c_1 => ?_) (fun c_1 => ?_)
  · -- taken
    exact g_throw (E := eA) (ik := 113) (is := 188) (ic := 117) (text := _) hx hb ht hlf hown (by decide +kernel) hw_k113 hw_i113 (List.mem_of_getElem? (i := 7) rfl) hat117 exc_ot_117 hlk hS hZ hP hV (hl.1.trans hml.symm) dX2_demandMonth_10 dX2_demandMonth_13 dX2_demandMonth_14 dX2_demandMonth_16 dX2_demandMonth_19 (Nat.le_of_ble_eq_true rfl) (Nat.le_of_ble_eq_true rfl) (Nat.le_of_ble_eq_true rfl) (Nat.le_of_ble_eq_true rfl) (Nat.le_of_ble_eq_true rfl) (Nat.le_of_ble_eq_true rfl) (by simp [erMo, c_1]) rfl
  · -- on
    refine lv_iload_n hx hb dX2_demandMonth_4 rfl (lv_at hl 0 rfl) ?_
    refine lv_bipush (v := 11) hx hb dX2_demandMonth_5 (by decide) ?_
    refine lv_icmp_le (tgt := 20) hx hb dX2_demandMonth_7 (by decide) (fun c_2 => ?_) (fun c_2 => ?_)
    · -- taken
      refine g_mqx (by simp [erMo, c_1, c_2]) ?_
      exact g_vret hx hb hr hlk hS hZ hP hV (Nat.le_of_ble_eq_true rfl) (Nat.le_of_ble_eq_true rfl) dX2_demandMonth_20 (by rfl)
    · -- on
      exact g_throw (E := eA) (ik := 113) (is := 188) (ic := 117) (text := _) hx hb ht hlf hown (by decide +kernel) hw_k113 hw_i113 (List.mem_of_getElem? (i := 7) rfl) hat117 exc_ot_117 hlk hS hZ hP hV (hl.1.trans hml.symm) dX2_demandMonth_10 dX2_demandMonth_13 dX2_demandMonth_14 dX2_demandMonth_16 dX2_demandMonth_19 (Nat.le_of_ble_eq_true rfl) (Nat.le_of_ble_eq_true rfl) (Nat.le_of_ble_eq_true rfl) (Nat.le_of_ble_eq_true rfl) (Nat.le_of_ble_eq_true rfl) (Nat.le_of_ble_eq_true rfl) (by simp [erMo, c_1, c_2]) rfl
set_option maxHeartbeats 4000000 in
set_option maxRecDepth 100000 in
theorem c_X2_demandCable (l : Launch) (hlf : l.stackTraces = false) (x : Cx) (M : Nat → Nat → Int32) (cn gn dn : Nat) (pn : Nat → Nat) (a : Int32) (hO : OkO M cn gn dn pn) : vx_Met l yX2_demandCable wsX2_demandCable ({ frames := 6, cells := 1, slots := 6, locals := 90 }) (gP x M [.ref (xa x 0), .int a]) (gQx x (erC cn a) none M) (gX x (erC cn a) M) 1 6 (gF x) := by
  refine g_metx (cc := cX2_demandCable) (maxL := 2) (ret := none) (by decide) rfl (Nat.le_of_ble_eq_true rfl) ?_
  intro p e s m below meth c hx hb hr hml hts hown hlk ht hS hZ hP hV ls hl
  have hl : lv_has ls 2 [(0, .ref (xa x 0)), (1, .int a)] := hl
  have hw_k190 := hts (.classLink RX2 190 "java/lang/IndexOutOfBoundsException") (by decide +kernel)
  have hw_i190 := hts (.initialized "java/lang/IndexOutOfBoundsException") (by decide +kernel)
  have hat194 := exc_hat (ic := 194) (E := eX) hS (by decide +kernel) exc_h2_194 (fun w hw => hts w (List.mem_cons_of_mem _ (List.mem_append_right _ hw)))
  have hw_f20 := hts (.fieldLink RX2 20 "CableOffice" "cableCount" "I") (by decide +kernel)
  have hinX2 : ∀ w ∈ wsX20, w ∈ wsX2_demandCable := by decide +kernel
  have hc8 := hO.c8
  have hg5 := hO.g5
  have hd8 := hO.d8
  refine lv_iload_n hx hb dX2_demandCable_0 rfl (lv_at hl 1 rfl) ?_
  refine lv_if_lt (tgt := 12) hx hb dX2_demandCable_1 (by decide) (fun c_1 => ?_) (fun c_1 => ?_)
  · -- taken
    exact g_throw (E := eX) (ik := 190) (is := 192) (ic := 194) (text := _) hx hb ht hlf hown (by decide +kernel) hw_k190 hw_i190 (List.mem_of_getElem? (i := 8) rfl) hat194 exc_ot_194 hlk hS hZ hP hV (hl.1.trans hml.symm) dX2_demandCable_12 dX2_demandCable_15 dX2_demandCable_16 dX2_demandCable_18 dX2_demandCable_21 (Nat.le_of_ble_eq_true rfl) (Nat.le_of_ble_eq_true rfl) (Nat.le_of_ble_eq_true rfl) (Nat.le_of_ble_eq_true rfl) (Nat.le_of_ble_eq_true rfl) (Nat.le_of_ble_eq_true rfl) (by simp [erC, c_1]) rfl
  · -- on
    refine lv_iload_n hx hb dX2_demandCable_4 rfl (lv_at hl 1 rfl) ?_
    refine lv_aload_n hx hb dX2_demandCable_5 rfl (lv_at hl 0 rfl) ?_
    refine g_get (C := RX2) (T := TX2) (N := 9) (v := .int (nI cn)) hx hb hts hinX2 hown hS hP (id := 0) (by decide) rfl rfl 2 (by decide) hw_f20 (congrArg (fun z => some (Value.int z)) hO.c) dX2_demandCable_6 ?_
    refine lv_icmp_lt (tgt := 22) hx hb dX2_demandCable_9 (by decide) (fun c_2 => ?_) (fun c_2 => ?_)
    · -- taken
      refine g_mqx (by simp [erC, c_1, c_2]) ?_
      exact g_vret hx hb hr hlk hS hZ hP hV (Nat.le_of_ble_eq_true rfl) (Nat.le_of_ble_eq_true rfl) dX2_demandCable_22 (by rfl)
    · -- on
      exact g_throw (E := eX) (ik := 190) (is := 192) (ic := 194) (text := _) hx hb ht hlf hown (by decide +kernel) hw_k190 hw_i190 (List.mem_of_getElem? (i := 8) rfl) hat194 exc_ot_194 hlk hS hZ hP hV (hl.1.trans hml.symm) dX2_demandCable_12 dX2_demandCable_15 dX2_demandCable_16 dX2_demandCable_18 dX2_demandCable_21 (Nat.le_of_ble_eq_true rfl) (Nat.le_of_ble_eq_true rfl) (Nat.le_of_ble_eq_true rfl) (Nat.le_of_ble_eq_true rfl) (Nat.le_of_ble_eq_true rfl) (Nat.le_of_ble_eq_true rfl) (by simp [erC, c_1, c_2]) rfl
set_option maxHeartbeats 4000000 in
set_option maxRecDepth 100000 in
theorem c_X2_demandGround (l : Launch) (hlf : l.stackTraces = false) (x : Cx) (M : Nat → Nat → Int32) (cn gn dn : Nat) (pn : Nat → Nat) (a : Int32) (hO : OkO M cn gn dn pn) : vx_Met l yX2_demandGround wsX2_demandGround ({ frames := 6, cells := 1, slots := 6, locals := 90 }) (gP x M [.ref (xa x 0), .int a]) (gQx x (erC gn a) none M) (gX x (erC gn a) M) 1 6 (gF x) := by
  refine g_metx (cc := cX2_demandGround) (maxL := 2) (ret := none) (by decide) rfl (Nat.le_of_ble_eq_true rfl) ?_
  intro p e s m below meth c hx hb hr hml hts hown hlk ht hS hZ hP hV ls hl
  have hl : lv_has ls 2 [(0, .ref (xa x 0)), (1, .int a)] := hl
  have hw_k190 := hts (.classLink RX2 190 "java/lang/IndexOutOfBoundsException") (by decide +kernel)
  have hw_i190 := hts (.initialized "java/lang/IndexOutOfBoundsException") (by decide +kernel)
  have hat194 := exc_hat (ic := 194) (E := eX) hS (by decide +kernel) exc_h2_194 (fun w hw => hts w (List.mem_cons_of_mem _ (List.mem_append_right _ hw)))
  have hw_f41 := hts (.fieldLink RX2 41 "CableOffice" "groundCount" "I") (by decide +kernel)
  have hinX2 : ∀ w ∈ wsX20, w ∈ wsX2_demandGround := by decide +kernel
  have hc8 := hO.c8
  have hg5 := hO.g5
  have hd8 := hO.d8
  refine lv_iload_n hx hb dX2_demandGround_0 rfl (lv_at hl 1 rfl) ?_
  refine lv_if_lt (tgt := 12) hx hb dX2_demandGround_1 (by decide) (fun c_1 => ?_) (fun c_1 => ?_)
  · -- taken
    exact g_throw (E := eX) (ik := 190) (is := 205) (ic := 194) (text := _) hx hb ht hlf hown (by decide +kernel) hw_k190 hw_i190 (List.mem_of_getElem? (i := 11) rfl) hat194 exc_ot_194 hlk hS hZ hP hV (hl.1.trans hml.symm) dX2_demandGround_12 dX2_demandGround_15 dX2_demandGround_16 dX2_demandGround_18 dX2_demandGround_21 (Nat.le_of_ble_eq_true rfl) (Nat.le_of_ble_eq_true rfl) (Nat.le_of_ble_eq_true rfl) (Nat.le_of_ble_eq_true rfl) (Nat.le_of_ble_eq_true rfl) (Nat.le_of_ble_eq_true rfl) (by simp [erC, c_1]) rfl
  · -- on
    refine lv_iload_n hx hb dX2_demandGround_4 rfl (lv_at hl 1 rfl) ?_
    refine lv_aload_n hx hb dX2_demandGround_5 rfl (lv_at hl 0 rfl) ?_
    refine g_get (C := RX2) (T := TX2) (N := 9) (v := .int (nI gn)) hx hb hts hinX2 hown hS hP (id := 0) (by decide) rfl rfl 7 (by decide) hw_f41 (congrArg (fun z => some (Value.int z)) hO.g) dX2_demandGround_6 ?_
    refine lv_icmp_lt (tgt := 22) hx hb dX2_demandGround_9 (by decide) (fun c_2 => ?_) (fun c_2 => ?_)
    · -- taken
      refine g_mqx (by simp [erC, c_1, c_2]) ?_
      exact g_vret hx hb hr hlk hS hZ hP hV (Nat.le_of_ble_eq_true rfl) (Nat.le_of_ble_eq_true rfl) dX2_demandGround_22 (by rfl)
    · -- on
      exact g_throw (E := eX) (ik := 190) (is := 205) (ic := 194) (text := _) hx hb ht hlf hown (by decide +kernel) hw_k190 hw_i190 (List.mem_of_getElem? (i := 11) rfl) hat194 exc_ot_194 hlk hS hZ hP hV (hl.1.trans hml.symm) dX2_demandGround_12 dX2_demandGround_15 dX2_demandGround_16 dX2_demandGround_18 dX2_demandGround_21 (Nat.le_of_ble_eq_true rfl) (Nat.le_of_ble_eq_true rfl) (Nat.le_of_ble_eq_true rfl) (Nat.le_of_ble_eq_true rfl) (Nat.le_of_ble_eq_true rfl) (Nat.le_of_ble_eq_true rfl) (by simp [erC, c_1, c_2]) rfl
set_option maxHeartbeats 4000000 in
set_option maxRecDepth 100000 in
theorem c_X2_demandCables (l : Launch) (hlf : l.stackTraces = false) (x : Cx) (M : Nat → Nat → Int32) (cn gn dn : Nat) (pn : Nat → Nat) (a b : Int32) (hO : OkO M cn gn dn pn) : vx_Met l yX2_demandCables wsX2_demandCables ({ frames := 7, cells := 2, slots := 12, locals := 111 }) (gP x M [.ref (xa x 0), .int a, .int b]) (gQx x (erCC cn a b) none M) (gX x (erCC cn a b) M) 2 12 (gF x) := by
  refine g_metx (cc := cX2_demandCables) (maxL := 3) (ret := none) (by decide) rfl (Nat.le_of_ble_eq_true rfl) ?_
  intro p e s m below meth c hx hb hr hml hts hown hlk ht hS hZ hP hV ls hl
  have hl : lv_has ls 3 [(0, .ref (xa x 0)), (1, .int a), (2, .int b)] := hl
  have hc8 := hO.c8
  have hg5 := hO.g5
  have hd8 := hO.d8
  refine lv_aload_n hx hb dX2_demandCables_0 rfl (lv_at hl 0 rfl) ?_
  refine lv_iload_n hx hb dX2_demandCables_1 rfl (lv_at hl 1 rfl) ?_
  refine g_xcall0 (vx_runV (As := [.int a]) (rest := []) ⟨hx, hb, hml, hown, hts⟩ (c_X2_demandCable l hlf x M cn gn dn pn a hO) (cwV 1 hts gX2_demandCables_X2_demandCable rfl rfl rfl (by decide +kernel) ⟨Nat.le_of_ble_eq_true rfl, Nat.le_of_ble_eq_true rfl⟩) (g_preV hS hZ hP hV [.int a] (id := 0) (by decide) rfl rfl) rfl rfl hl.1 rfl (lv_room (Nat.le_of_ble_eq_true rfl)) dX2_demandCables_2 ⟨Nat.le_of_ble_eq_true rfl, Nat.le_of_ble_eq_true rfl⟩) hV (fun E ce q H locs hE hP hV h1 h2 h3 => g_xout ht hlk hS hZ (Nat.le_of_ble_eq_true rfl) (Nat.le_of_ble_eq_true rfl) (by simp [erCC, orE, hE, *]) rfl hP hV h1 h2 h3) (fun H locs x_1 hP hV => ?_)
  refine lv_aload_n hx hb dX2_demandCables_5 rfl (lv_at hl 0 rfl) ?_
  refine lv_iload_n hx hb dX2_demandCables_6 rfl (lv_at hl 2 rfl) ?_
  refine g_xcall0 (vx_runV (As := [.int b]) (rest := []) ⟨hx, hb, hml, hown, hts⟩ (c_X2_demandCable l hlf x M cn gn dn pn b hO) (cwV 1 hts gX2_demandCables_X2_demandCable rfl rfl rfl (by decide +kernel) ⟨Nat.le_of_ble_eq_true rfl, Nat.le_of_ble_eq_true rfl⟩) (g_preV hS hZ hP hV [.int b] (id := 0) (by decide) rfl rfl) rfl rfl hl.1 rfl (lv_room (Nat.le_of_ble_eq_true rfl)) dX2_demandCables_7 ⟨Nat.le_of_ble_eq_true rfl, Nat.le_of_ble_eq_true rfl⟩) hV (fun E ce q H locs hE hP hV h1 h2 h3 => g_xout ht hlk hS hZ (Nat.le_of_ble_eq_true rfl) (Nat.le_of_ble_eq_true rfl) (by simp [erCC, orE, hE, *]) rfl hP hV h1 h2 h3) (fun H locs x_2 hP hV => ?_)
  refine g_mqx (by simp [erCC, orE, x_1, x_2]) ?_
  exact g_vret hx hb hr hlk hS hZ hP hV (Nat.le_of_ble_eq_true rfl) (Nat.le_of_ble_eq_true rfl) dX2_demandCables_10 (by rfl)
set_option maxHeartbeats 4000000 in
set_option maxRecDepth 100000 in
theorem c_X2_demandPoint (l : Launch) (hlf : l.stackTraces = false) (x : Cx) (M : Nat → Nat → Int32) (cn gn dn : Nat) (pn : Nat → Nat) (a q : Int32) (hO : OkO M cn gn dn pn) : vx_Met l yX2_demandPoint wsX2_demandPoint ({ frames := 7, cells := 2, slots := 12, locals := 111 }) (gP x M [.ref (xa x 0), .int a, .int q]) (gQx x (erPt cn pn a q) none M) (gX x (erPt cn pn a q) M) 2 12 (gF x) := by
  refine g_metx (cc := cX2_demandPoint) (maxL := 3) (ret := none) (by decide) rfl (Nat.le_of_ble_eq_true rfl) ?_
  intro p e s m below meth c hx hb hr hml hts hown hlk ht hS hZ hP hV ls hl
  have hl : lv_has ls 3 [(0, .ref (xa x 0)), (1, .int a), (2, .int q)] := hl
  have hw_k190 := hts (.classLink RX2 190 "java/lang/IndexOutOfBoundsException") (by decide +kernel)
  have hw_i190 := hts (.initialized "java/lang/IndexOutOfBoundsException") (by decide +kernel)
  have hat194 := exc_hat (ic := 194) (E := eX) hS (by decide +kernel) exc_h2_194 (fun w hw => hts w (List.mem_cons_of_mem _ (List.mem_append_right _ hw)))
  have hw_f16 := hts (.fieldLink RX2 16 "CableOffice" "routes" "[LCableOffice$Route;") (by decide +kernel)
  have hinX2 : ∀ w ∈ wsX20, w ∈ wsX2_demandPoint := by decide +kernel
  have hinX1 : ∀ w ∈ wsX10, w ∈ wsX2_demandPoint := by decide +kernel
  have hc8 := hO.c8
  have hg5 := hO.g5
  have hd8 := hO.d8
  refine lv_aload_n hx hb dX2_demandPoint_0 rfl (lv_at hl 0 rfl) ?_
  refine lv_iload_n hx hb dX2_demandPoint_1 rfl (lv_at hl 1 rfl) ?_
  refine g_xcall0 (vx_runV (As := [.int a]) (rest := []) ⟨hx, hb, hml, hown, hts⟩ (c_X2_demandCable l hlf x M cn gn dn pn a hO) (cwV 1 hts gX2_demandPoint_X2_demandCable rfl rfl rfl (by decide +kernel) ⟨Nat.le_of_ble_eq_true rfl, Nat.le_of_ble_eq_true rfl⟩) (g_preV hS hZ hP hV [.int a] (id := 0) (by decide) rfl rfl) rfl rfl hl.1 rfl (lv_room (Nat.le_of_ble_eq_true rfl)) dX2_demandPoint_2 ⟨Nat.le_of_ble_eq_true rfl, Nat.le_of_ble_eq_true rfl⟩) hV (fun E ce q H locs hE hP hV h1 h2 h3 => g_xout ht hlk hS hZ (Nat.le_of_ble_eq_true rfl) (Nat.le_of_ble_eq_true rfl) (by simp [erPt, orE, hE]) rfl hP hV h1 h2 h3) (fun H locs x_1 hP hV => ?_)
  obtain ⟨j, hj, ej⟩ := erC_none hO.c8 x_1
  have h7j := hO.p7 hj
  rw [ej] at hl
  refine lv_iload_n hx hb dX2_demandPoint_5 rfl (lv_at hl 2 rfl) ?_
  refine lv_if_lt (tgt := 22) hx hb dX2_demandPoint_6 (by decide) (fun c_2 => ?_) (fun c_2 => ?_)
  · -- taken
    exact g_throw (E := eX) (ik := 190) (is := 198) (ic := 194) (text := _) hx hb ht hlf hown (by decide +kernel) hw_k190 hw_i190 (List.mem_of_getElem? (i := 9) rfl) hat194 exc_ot_194 hlk hS hZ hP hV (hl.1.trans hml.symm) dX2_demandPoint_22 dX2_demandPoint_25 dX2_demandPoint_26 dX2_demandPoint_28 dX2_demandPoint_31 (Nat.le_of_ble_eq_true rfl) (Nat.le_of_ble_eq_true rfl) (Nat.le_of_ble_eq_true rfl) (Nat.le_of_ble_eq_true rfl) (Nat.le_of_ble_eq_true rfl) (Nat.le_of_ble_eq_true rfl) (by subst ej; simp [erPt, orE, tn_nI (show j < 2 ^ 31 by omega), x_1, c_2]) rfl
  · -- on
    refine lv_iload_n hx hb dX2_demandPoint_9 rfl (lv_at hl 2 rfl) ?_
    refine lv_aload_n hx hb dX2_demandPoint_10 rfl (lv_at hl 0 rfl) ?_
    refine g_get (C := RX2) (T := TX2) (N := 9) (v := .ref (xa x 1)) hx hb hts hinX2 hown hS hP (id := 0) (by decide) rfl rfl 1 (by decide) hw_f16 rfl dX2_demandPoint_11 ?_
    refine lv_iload_n hx hb dX2_demandPoint_14 rfl (lv_at hl 1 rfl) ?_
    refine g_aaldR (j := j) hx hb hS hP rfl (by omega) dX2_demandPoint_15 ?_
    refine g_getN (C := RX1) (T := TX1) (N := 3) (host := RX2) (v := .int (nI (pn j + 1))) hx hb hts hinX1 hown hS hP (id := 11 + 3 * j) (by omega) (sh_r x _ (by omega)) rfl 2 (by decide) (by decide +kernel) (congrArg (fun z => some (Value.int z)) (hO.p (by omega))) dX2_demandPoint_16 ?_
    refine lv_icmp_lt (tgt := 32) hx hb dX2_demandPoint_19 (by decide) (fun c_3 => ?_) (fun c_3 => ?_)
    · -- taken
      refine g_mqx (by subst ej; simp [erPt, orE, tn_nI (show j < 2 ^ 31 by omega), x_1, c_2, c_3]) ?_
      exact g_vret hx hb hr hlk hS hZ hP hV (Nat.le_of_ble_eq_true rfl) (Nat.le_of_ble_eq_true rfl) dX2_demandPoint_32 (by rfl)
    · -- on
      exact g_throw (E := eX) (ik := 190) (is := 198) (ic := 194) (text := _) hx hb ht hlf hown (by decide +kernel) hw_k190 hw_i190 (List.mem_of_getElem? (i := 9) rfl) hat194 exc_ot_194 hlk hS hZ hP hV (hl.1.trans hml.symm) dX2_demandPoint_22 dX2_demandPoint_25 dX2_demandPoint_26 dX2_demandPoint_28 dX2_demandPoint_31 (Nat.le_of_ble_eq_true rfl) (Nat.le_of_ble_eq_true rfl) (Nat.le_of_ble_eq_true rfl) (Nat.le_of_ble_eq_true rfl) (Nat.le_of_ble_eq_true rfl) (Nat.le_of_ble_eq_true rfl) (by subst ej; simp [erPt, orE, tn_nI (show j < 2 ^ 31 by omega), x_1, c_2, c_3]) rfl
set_option maxHeartbeats 4000000 in
set_option maxRecDepth 100000 in
theorem c_X2_demandPiece (l : Launch) (hlf : l.stackTraces = false) (x : Cx) (M : Nat → Nat → Int32) (cn gn dn : Nat) (pn : Nat → Nat) (a q : Int32) (hO : OkO M cn gn dn pn) : vx_Met l yX2_demandPiece wsX2_demandPiece ({ frames := 7, cells := 2, slots := 12, locals := 111 }) (gP x M [.ref (xa x 0), .int a, .int q]) (gQx x (erPc cn pn a q) none M) (gX x (erPc cn pn a q) M) 2 12 (gF x) := by
  refine g_metx (cc := cX2_demandPiece) (maxL := 3) (ret := none) (by decide) rfl (Nat.le_of_ble_eq_true rfl) ?_
  intro p e s m below meth c hx hb hr hml hts hown hlk ht hS hZ hP hV ls hl
  have hl : lv_has ls 3 [(0, .ref (xa x 0)), (1, .int a), (2, .int q)] := hl
  have hw_k190 := hts (.classLink RX2 190 "java/lang/IndexOutOfBoundsException") (by decide +kernel)
  have hw_i190 := hts (.initialized "java/lang/IndexOutOfBoundsException") (by decide +kernel)
  have hat194 := exc_hat (ic := 194) (E := eX) hS (by decide +kernel) exc_h2_194 (fun w hw => hts w (List.mem_cons_of_mem _ (List.mem_append_right _ hw)))
  have hw_f16 := hts (.fieldLink RX2 16 "CableOffice" "routes" "[LCableOffice$Route;") (by decide +kernel)
  have hinX2 : ∀ w ∈ wsX20, w ∈ wsX2_demandPiece := by decide +kernel
  have hw_iX1 := hts (.initialized RX1) (by decide +kernel)
  have hw_imX1_pieces := hts (.instanceMethod yX1_pieces) (by decide +kernel)
  have hw_seX1_pieces := hts (.selects RX1 yX1_pieces yX1_pieces) (by decide +kernel)
  have hc8 := hO.c8
  have hg5 := hO.g5
  have hd8 := hO.d8
  refine lv_aload_n hx hb dX2_demandPiece_0 rfl (lv_at hl 0 rfl) ?_
  refine lv_iload_n hx hb dX2_demandPiece_1 rfl (lv_at hl 1 rfl) ?_
  refine g_xcall0 (vx_runV (As := [.int a]) (rest := []) ⟨hx, hb, hml, hown, hts⟩ (c_X2_demandCable l hlf x M cn gn dn pn a hO) (cwV 1 hts gX2_demandPiece_X2_demandCable rfl rfl rfl (by decide +kernel) ⟨Nat.le_of_ble_eq_true rfl, Nat.le_of_ble_eq_true rfl⟩) (g_preV hS hZ hP hV [.int a] (id := 0) (by decide) rfl rfl) rfl rfl hl.1 rfl (lv_room (Nat.le_of_ble_eq_true rfl)) dX2_demandPiece_2 ⟨Nat.le_of_ble_eq_true rfl, Nat.le_of_ble_eq_true rfl⟩) hV (fun E ce q H locs hE hP hV h1 h2 h3 => g_xout ht hlk hS hZ (Nat.le_of_ble_eq_true rfl) (Nat.le_of_ble_eq_true rfl) (by simp [erPc, orE, hE]) rfl hP hV h1 h2 h3) (fun H locs x_1 hP hV => ?_)
  obtain ⟨j, hj, ej⟩ := erC_none hO.c8 x_1
  have h7j := hO.p7 hj
  rw [ej] at hl
  refine lv_iload_n hx hb dX2_demandPiece_5 rfl (lv_at hl 2 rfl) ?_
  refine lv_if_lt (tgt := 22) hx hb dX2_demandPiece_6 (by decide) (fun c_2 => ?_) (fun c_2 => ?_)
  · -- taken
    exact g_throw (E := eX) (ik := 190) (is := 203) (ic := 194) (text := _) hx hb ht hlf hown (by decide +kernel) hw_k190 hw_i190 (List.mem_of_getElem? (i := 10) rfl) hat194 exc_ot_194 hlk hS hZ hP hV (hl.1.trans hml.symm) dX2_demandPiece_22 dX2_demandPiece_25 dX2_demandPiece_26 dX2_demandPiece_28 dX2_demandPiece_31 (Nat.le_of_ble_eq_true rfl) (Nat.le_of_ble_eq_true rfl) (Nat.le_of_ble_eq_true rfl) (Nat.le_of_ble_eq_true rfl) (Nat.le_of_ble_eq_true rfl) (Nat.le_of_ble_eq_true rfl) (by subst ej; simp [erPc, orE, tn_nI (show j < 2 ^ 31 by omega), x_1, c_2]) rfl
  · -- on
    refine lv_iload_n hx hb dX2_demandPiece_9 rfl (lv_at hl 2 rfl) ?_
    refine lv_aload_n hx hb dX2_demandPiece_10 rfl (lv_at hl 0 rfl) ?_
    refine g_get (C := RX2) (T := TX2) (N := 9) (v := .ref (xa x 1)) hx hb hts hinX2 hown hS hP (id := 0) (by decide) rfl rfl 1 (by decide) hw_f16 rfl dX2_demandPiece_11 ?_
    refine lv_iload_n hx hb dX2_demandPiece_14 rfl (lv_at hl 1 rfl) ?_
    refine g_aaldR (j := j) hx hb hS hP rfl (by omega) dX2_demandPiece_15 ?_
    refine g_call1 (va_runVN (As := []) (rest := [.int q]) ⟨hx, hb, hml, hown, hts⟩ (c_X1_pieces l x M j (pn j) (by omega) (hO.p (by omega))) ⟨va_cnB (host := RX2) 0 hts gX2_demandPiece_X1_pieces_n200 rfl rfl rfl (hS.2.2.2.2.1 _ (by decide +kernel)) hw_iX1 (by decide +kernel) ⟨Nat.le_of_ble_eq_true rfl, Nat.le_of_ble_eq_true rfl⟩, hw_imX1_pieces, hw_seX1_pieces⟩ (g_preV hS hZ hP hV [] (id := 11 + 3 * j) (by omega) (sh_r x _ (by omega)) rfl) rfl rfl hl.1 rfl (lv_room (Nat.le_of_ble_eq_true rfl)) dX2_demandPiece_16 ⟨Nat.le_of_ble_eq_true rfl, Nat.le_of_ble_eq_true rfl⟩) hV (fun H locs hP hV => ?_)
    refine lv_icmp_lt (tgt := 32) hx hb dX2_demandPiece_19 (by decide) (fun c_3 => ?_) (fun c_3 => ?_)
    · -- taken
      refine g_mqx (by subst ej; simp [erPc, orE, tn_nI (show j < 2 ^ 31 by omega), x_1, c_2, c_3]) ?_
      exact g_vret hx hb hr hlk hS hZ hP hV (Nat.le_of_ble_eq_true rfl) (Nat.le_of_ble_eq_true rfl) dX2_demandPiece_32 (by rfl)
    · -- on
      exact g_throw (E := eX) (ik := 190) (is := 203) (ic := 194) (text := _) hx hb ht hlf hown (by decide +kernel) hw_k190 hw_i190 (List.mem_of_getElem? (i := 10) rfl) hat194 exc_ot_194 hlk hS hZ hP hV (hl.1.trans hml.symm) dX2_demandPiece_22 dX2_demandPiece_25 dX2_demandPiece_26 dX2_demandPiece_28 dX2_demandPiece_31 (Nat.le_of_ble_eq_true rfl) (Nat.le_of_ble_eq_true rfl) (Nat.le_of_ble_eq_true rfl) (Nat.le_of_ble_eq_true rfl) (Nat.le_of_ble_eq_true rfl) (Nat.le_of_ble_eq_true rfl) (by subst ej; simp [erPc, orE, tn_nI (show j < 2 ^ 31 by omega), x_1, c_2, c_3]) rfl
set_option maxHeartbeats 4000000 in
set_option maxRecDepth 100000 in
theorem c_X2_crossWell (l : Launch) (x : Cx) (M : Nat → Nat → Int32) (a b : Nat) (ha : a < 8) (hb8 : b < 8) : Met l yX2_crossWell wsX2_crossWell ({ frames := 2, cells := 0, slots := 0, locals := 42 }) (gP x M [.ref (xa x 0), .int (nI a), .int (nI b)]) (gQ x (some (.int (bI (weO M a b)))) M) 0 0 (gF x) := by
  refine g_met (cc := cX2_crossWell) (maxL := 4) (ret := some .boolean) (by decide) rfl (Nat.le_of_ble_eq_true rfl) ?_
  intro p e s m below meth c hx hb hr hml hts hown hlk hS hZ hP hV ls hl
  have hl : lv_has ls 4 [(0, .ref (xa x 0)), (1, .int (nI a)), (2, .int (nI b))] := hl
  have hw_f24 := hts (.fieldLink RX2 24 "CableOffice" "crossed" "[I") (by decide +kernel)
  have hinX2 : ∀ w ∈ wsX20, w ∈ wsX2_crossWell := by decide +kernel
  have hw_f28 := hts (.fieldLink RX2 28 "CableOffice" "crossedSteeply" "[I") (by decide +kernel)
  have hp64 := pr_lt ha hb8
  refine lv_iload_n hx hb dX2_crossWell_0 rfl (lv_at hl 1 rfl) ?_
  refine lv_iload_n hx hb dX2_crossWell_1 rfl (lv_at hl 2 rfl) ?_
  refine g_call1 (va_runS (As := [.int (nI a), .int (nI b)]) (rest := []) ⟨hx, hb, hml, hown, hts⟩ (c_X2_pairOf l x M a b (by omega) (by omega)) (va_cwS 2 hts gX2_crossWell_X2_pairOf rfl rfl rfl (by decide +kernel) ⟨Nat.le_of_ble_eq_true rfl, Nat.le_of_ble_eq_true rfl⟩) (g_preS hS hZ hP hV [.int (nI a), .int (nI b)]) rfl rfl hl.1 rfl (lv_room (Nat.le_of_ble_eq_true rfl)) dX2_crossWell_2 ⟨Nat.le_of_ble_eq_true rfl, Nat.le_of_ble_eq_true rfl⟩) hV (fun H locs hP hV => ?_)
  refine lv_istore_n (lv' := [(3, .int (nI (pr a b))), (0, .ref (xa x 0)), (1, .int (nI a)), (2, .int (nI b))]) hx hb dX2_crossWell_5 rfl hl (by decide) rfl (fun ls hl => ?_)
  refine lv_aload_n hx hb dX2_crossWell_6 rfl (lv_at hl 1 rfl) ?_
  refine g_get (C := RX2) (T := TX2) (N := 9) (v := .ref (xa x 2)) hx hb hts hinX2 hown hS hP (id := 0) (by decide) rfl rfl 3 (by decide) hw_f24 rfl dX2_crossWell_7 ?_
  refine lv_iload_n hx hb dX2_crossWell_10 rfl (lv_at hl 0 rfl) ?_
  refine g_iald (j := pr a b) hx hb hS hP (id := 2) (by omega) ((fun _ => rfl) _) (by decide) rfl (by omega) dX2_crossWell_11 ?_
  refine lv_if_le (tgt := 34) hx hb dX2_crossWell_12 (by decide) (fun c_1 => ?_) (fun c_1 => ?_)
  · -- taken
    refine lv_iconst (v := 0) hx hb dX2_crossWell_34 (by decide) ?_
    exact g_zret hx hb hr hlk hS hZ hP hV (Nat.le_of_ble_eq_true rfl) (Nat.le_of_ble_eq_true rfl) dX2_crossWell_35 (by decide) (by simp [weO, bI, c_1]) (by rfl)
  · -- on
    refine lv_aload_n hx hb dX2_crossWell_15 rfl (lv_at hl 1 rfl) ?_
    refine g_get (C := RX2) (T := TX2) (N := 9) (v := .ref (xa x 3)) hx hb hts hinX2 hown hS hP (id := 0) (by decide) rfl rfl 4 (by decide) hw_f28 rfl dX2_crossWell_16 ?_
    refine lv_iload_n hx hb dX2_crossWell_19 rfl (lv_at hl 0 rfl) ?_
    refine g_iald (j := pr a b) hx hb hS hP (id := 3) (by omega) ((fun _ => rfl) _) (by decide) rfl (by omega) dX2_crossWell_20 ?_
    refine lv_aload_n hx hb dX2_crossWell_21 rfl (lv_at hl 1 rfl) ?_
    refine g_get (C := RX2) (T := TX2) (N := 9) (v := .ref (xa x 2)) hx hb hts hinX2 hown hS hP (id := 0) (by decide) rfl rfl 3 (by decide) hw_f24 rfl dX2_crossWell_22 ?_
    refine lv_iload_n hx hb dX2_crossWell_25 rfl (lv_at hl 0 rfl) ?_
    refine g_iald (j := pr a b) hx hb hS hP (id := 2) (by omega) ((fun _ => rfl) _) (by decide) rfl (by omega) dX2_crossWell_26 ?_
    refine lv_icmp_ne (tgt := 34) hx hb dX2_crossWell_27 (by decide) (fun c_2 => ?_) (fun c_2 => ?_)
    · -- taken
      refine lv_iconst (v := 0) hx hb dX2_crossWell_34 (by decide) ?_
      exact g_zret hx hb hr hlk hS hZ hP hV (Nat.le_of_ble_eq_true rfl) (Nat.le_of_ble_eq_true rfl) dX2_crossWell_35 (by decide) (by simp [weO, bI, c_1, c_2]) (by rfl)
    · -- on
      refine lv_iconst (v := 1) hx hb dX2_crossWell_30 (by decide) ?_
      refine lv_goto (tgt := 35) hx hb dX2_crossWell_31 (by decide) ?_
      exact g_zret hx hb hr hlk hS hZ hP hV (Nat.le_of_ble_eq_true rfl) (Nat.le_of_ble_eq_true rfl) dX2_crossWell_35 (by decide) (by simp [weO, bI, c_1, c_2]) (by rfl)
set_option maxHeartbeats 4000000 in
set_option maxRecDepth 100000 in
theorem c_X2_dropIfNotWell (l : Launch) (x : Cx) (M : Nat → Nat → Int32) (a b : Nat) (ha : a < 8) (hb8 : b < 8) : Met l yX2_dropIfNotWell wsX2_dropIfNotWell ({ frames := 3, cells := 0, slots := 0, locals := 65 }) (gP x M [.ref (xa x 0), .int (nI a), .int (nI b)]) (gQ x (some (.int (if drO M a b = true then 1 else 0))) (if drO M a b = true then up2 M 4 (pr a b) 0 else M)) 0 0 (gF x) := by
  refine g_met (cc := cX2_dropIfNotWell) (maxL := 4) (ret := some .int) (by decide) rfl (Nat.le_of_ble_eq_true rfl) ?_
  intro p e s m below meth c hx hb hr hml hts hown hlk hS hZ hP hV ls hl
  have hl : lv_has ls 4 [(0, .ref (xa x 0)), (1, .int (nI a)), (2, .int (nI b))] := hl
  have hw_f31 := hts (.fieldLink RX2 31 "CableOffice" "agreed" "[Z") (by decide +kernel)
  have hinX2 : ∀ w ∈ wsX20, w ∈ wsX2_dropIfNotWell := by decide +kernel
  have hp64 := pr_lt ha hb8
  refine lv_iload_n hx hb dX2_dropIfNotWell_0 rfl (lv_at hl 1 rfl) ?_
  refine lv_iload_n hx hb dX2_dropIfNotWell_1 rfl (lv_at hl 2 rfl) ?_
  refine g_call1 (va_runS (As := [.int (nI a), .int (nI b)]) (rest := []) ⟨hx, hb, hml, hown, hts⟩ (c_X2_pairOf l x M a b (by omega) (by omega)) (va_cwS 2 hts gX2_dropIfNotWell_X2_pairOf rfl rfl rfl (by decide +kernel) ⟨Nat.le_of_ble_eq_true rfl, Nat.le_of_ble_eq_true rfl⟩) (g_preS hS hZ hP hV [.int (nI a), .int (nI b)]) rfl rfl hl.1 rfl (lv_room (Nat.le_of_ble_eq_true rfl)) dX2_dropIfNotWell_2 ⟨Nat.le_of_ble_eq_true rfl, Nat.le_of_ble_eq_true rfl⟩) hV (fun H locs hP hV => ?_)
  refine lv_istore_n (lv' := [(3, .int (nI (pr a b))), (0, .ref (xa x 0)), (1, .int (nI a)), (2, .int (nI b))]) hx hb dX2_dropIfNotWell_5 rfl hl (by decide) rfl (fun ls hl => ?_)
  refine lv_aload_n hx hb dX2_dropIfNotWell_6 rfl (lv_at hl 1 rfl) ?_
  refine g_get (C := RX2) (T := TX2) (N := 9) (v := .ref (xa x 4)) hx hb hts hinX2 hown hS hP (id := 0) (by decide) rfl rfl 5 (by decide) hw_f31 rfl dX2_dropIfNotWell_7 ?_
  refine lv_iload_n hx hb dX2_dropIfNotWell_10 rfl (lv_at hl 0 rfl) ?_
  refine g_zald (j := pr a b) hx hb hS hP (id := 4) (by omega) ((fun _ => rfl) _) (by decide) rfl (by omega) dX2_dropIfNotWell_11 ?_
  refine lv_if_eq (tgt := 24) hx hb dX2_dropIfNotWell_12 (by decide) (fun c_1 => ?_) (fun c_1 => ?_)
  · -- taken
    refine lv_iconst (v := 0) hx hb dX2_dropIfNotWell_24 (by decide) ?_
    exact g_iret hx hb hr hlk hS hZ hP hV (Nat.le_of_ble_eq_true rfl) (Nat.le_of_ble_eq_true rfl) dX2_dropIfNotWell_25 (by simp [drO, c_1]) (by simp [drO, c_1])
  · -- on
    refine lv_aload_n hx hb dX2_dropIfNotWell_15 rfl (lv_at hl 1 rfl) ?_
    refine lv_iload_n hx hb dX2_dropIfNotWell_16 rfl (lv_at hl 2 rfl) ?_
    refine lv_iload_n hx hb dX2_dropIfNotWell_17 rfl (lv_at hl 3 rfl) ?_
    refine g_call1 (va_runV (As := [.int (nI a), .int (nI b)]) (rest := []) ⟨hx, hb, hml, hown, hts⟩ (c_X2_crossWell l x M a b (by omega) (by omega)) (cwV 2 hts gX2_dropIfNotWell_X2_crossWell rfl rfl rfl (by decide +kernel) ⟨Nat.le_of_ble_eq_true rfl, Nat.le_of_ble_eq_true rfl⟩) (g_preV hS hZ hP hV [.int (nI a), .int (nI b)] (id := 0) (by decide) rfl rfl) rfl rfl hl.1 rfl (lv_room (Nat.le_of_ble_eq_true rfl)) dX2_dropIfNotWell_18 ⟨Nat.le_of_ble_eq_true rfl, Nat.le_of_ble_eq_true rfl⟩) hV (fun H locs hP hV => ?_)
    refine h_if_eq_b (tgt := 26) hx hb dX2_dropIfNotWell_21 (by decide) (fun c_2 => ?_) (fun c_2 => ?_)
    · -- taken
      refine lv_aload_n hx hb dX2_dropIfNotWell_26 rfl (lv_at hl 1 rfl) ?_
      refine g_get (C := RX2) (T := TX2) (N := 9) (v := .ref (xa x 4)) hx hb hts hinX2 hown hS hP (id := 0) (by decide) rfl rfl 5 (by decide) hw_f31 rfl dX2_dropIfNotWell_27 ?_
      refine lv_iload_n hx hb dX2_dropIfNotWell_30 rfl (lv_at hl 0 rfl) ?_
      refine lv_iconst (v := 0) hx hb dX2_dropIfNotWell_31 (by decide) ?_
      refine g_zast (j := pr a b) hx hb hS hP hV (id := 4) (by omega) (fun _ => rfl) (by decide) rfl (by omega) (by decide) dX2_dropIfNotWell_32 (fun H locs hP hV => ?_)
      refine lv_iconst (v := 1) hx hb dX2_dropIfNotWell_33 (by decide) ?_
      exact g_iret hx hb hr hlk hS hZ hP hV (Nat.le_of_ble_eq_true rfl) (Nat.le_of_ble_eq_true rfl) dX2_dropIfNotWell_34 (by simp [drO, c_1, c_2]) (by simp [drO, c_1, c_2])
    · -- on
      refine lv_iconst (v := 0) hx hb dX2_dropIfNotWell_24 (by decide) ?_
      exact g_iret hx hb hr hlk hS hZ hP hV (Nat.le_of_ble_eq_true rfl) (Nat.le_of_ble_eq_true rfl) dX2_dropIfNotWell_25 (by simp [drO, c_1, c_2]) (by simp [drO, c_1, c_2])
set_option maxHeartbeats 4000000 in
set_option maxRecDepth 100000 in
theorem c_X2_countCrossings (l : Launch) (x : Cx) (M : Nat → Nat → Int32) (i j n u : Nat) (bb : Bool) (hi : i < 9) (hj : j < 9) (hn : M (11 + 3 * i) 2 = nI (n + 1)) (hu : M (11 + 3 * j) 2 = nI (u + 1)) (hn7 : n ≤ 7) (hu7 : u ≤ 7) : Met l yX2_countCrossings wsX2_countCrossings ({ frames := 4, cells := 0, slots := 0, locals := 92 }) (gP x M [.ref (xa x (11 + 3 * i)), .ref (xa x (11 + 3 * j)), .int (bI bb)]) (gQ x (some (.int (nI (cnt2 (fX bb (M (11 + 3 * i + 1)) (M (11 + 3 * i + 2)) (M (11 + 3 * j + 1)) (M (11 + 3 * j + 2))) u n)))) M) 0 0 (gF x) := by
  refine g_met (cc := cX2_countCrossings) (maxL := 6) (ret := some .int) (by decide) rfl (Nat.le_of_ble_eq_true rfl) ?_
  intro p e s m below meth c hx hb hr hml hts hown hlk hS hZ hP hV ls hl
  have hl : lv_has ls 6 [(0, .ref (xa x (11 + 3 * i))), (1, .ref (xa x (11 + 3 * j))), (2, .int (bI bb))] := hl
  have hw_iX1 := hts (.initialized RX1) (by decide +kernel)
  have hw_imX1_pieces := hts (.instanceMethod yX1_pieces) (by decide +kernel)
  have hw_seX1_pieces := hts (.selects RX1 yX1_pieces yX1_pieces) (by decide +kernel)
  have hw_imX1_pieceCrosses := hts (.instanceMethod yX1_pieceCrosses) (by decide +kernel)
  have hw_seX1_pieceCrosses := hts (.selects RX1 yX1_pieceCrosses yX1_pieceCrosses) (by decide +kernel)
  have hw_imX1_pieceIsSteepTo := hts (.instanceMethod yX1_pieceIsSteepTo) (by decide +kernel)
  have hw_seX1_pieceIsSteepTo := hts (.selects RX1 yX1_pieceIsSteepTo yX1_pieceIsSteepTo) (by decide +kernel)
  refine lv_iconst (v := 0) hx hb dX2_countCrossings_0 (by decide) ?_
  refine lv_istore_n (lv' := [(3, .int 0), (0, .ref (xa x (11 + 3 * i))), (1, .ref (xa x (11 + 3 * j))), (2, .int (bI bb))]) hx hb dX2_countCrossings_1 rfl hl (by decide) rfl (fun ls hl => ?_)
  refine lv_iconst (v := 0) hx hb dX2_countCrossings_2 (by decide) ?_
  refine lv_istore (lv' := [(4, .int 0), (3, .int 0), (0, .ref (xa x (11 + 3 * i))), (1, .ref (xa x (11 + 3 * j))), (2, .int (bI bb))]) hx hb dX2_countCrossings_3 hl (by decide) rfl (fun ls hl => ?_)
  have lp_5 : ∀ (nn k : Nat), n - k < nn → k ≤ n → ∀ (H : Heap) (locs : List Loc), va_P (xD x) vwCl (wAll x M) H → va_S (gF x) s.heap H locs → ∀ ls : Array Slot, lv_has ls 6 [(4, .int (nI k)), (3, .int (nI (cnt2 (fX bb (M (11 + 3 * i + 1)) (M (11 + 3 * i + 2)) (M (11 + 3 * j + 1)) (M (11 + 3 * j + 2))) u k))), (0, .ref (xa x (11 + 3 * i))), (1, .ref (xa x (11 + 3 * j))), (2, .int (bI bb))] → W p l e ({ frames := 4, cells := 0, slots := 0, locals := 92 }) s m ([.ref (xa x (11 + 3 * i)), .ref (xa x (11 + 3 * j)), .int (bI bb)] : List Value).toArray below meth c H locs 0 0 (MQ below (gQ x (some (.int (nI (cnt2 (fX bb (M (11 + 3 * i + 1)) (M (11 + 3 * i + 2)) (M (11 + 3 * j + 1)) (M (11 + 3 * j + 2))) u n)))) M) ([.ref (xa x (11 + 3 * i)), .ref (xa x (11 + 3 * j)), .int (bI bb)] : List Value).toArray s 0 0 (gF x)) (F0 m 5 ls []) := by
    intro nn
    induction nn with
    | zero => intro k hz; exact absurd hz (Nat.not_lt_zero _)
    | succ nn ih_5 =>
      intro k hf_5 hk_5  H locs hP hV ls hl
      refine lv_iload hx hb dX2_countCrossings_5 (lv_at hl 0 rfl) ?_
      refine lv_aload_n hx hb dX2_countCrossings_7 rfl (lv_at hl 2 rfl) ?_
      refine g_call1 (va_runVN (As := []) (rest := [.int (nI k)]) ⟨hx, hb, hml, hown, hts⟩ (c_X1_pieces l x M i n (by omega) hn) ⟨va_cnB (host := RX2) 0 hts gX2_countCrossings_X1_pieces_n200 rfl rfl rfl (hS.2.2.2.2.1 _ (by decide +kernel)) hw_iX1 (by decide +kernel) ⟨Nat.le_of_ble_eq_true rfl, Nat.le_of_ble_eq_true rfl⟩, hw_imX1_pieces, hw_seX1_pieces⟩ (g_preV hS hZ hP hV [] (id := 11 + 3 * i) (by omega) (sh_r x _ (by omega)) rfl) rfl rfl hl.1 rfl (lv_room (Nat.le_of_ble_eq_true rfl)) dX2_countCrossings_8 ⟨Nat.le_of_ble_eq_true rfl, Nat.le_of_ble_eq_true rfl⟩) hV (fun H locs hP hV => ?_)
      refine h_icmp_ge_n (a := k) (b := n) (tgt := 69) hx hb (by omega) (by omega) dX2_countCrossings_11 (by decide) (fun c_1 => ?_) (fun c_1 => ?_)
      · -- taken
        refine lv_iload_n hx hb dX2_countCrossings_69 rfl (lv_at hl 1 rfl) ?_
        exact g_iret hx hb hr hlk hS hZ hP hV (Nat.le_of_ble_eq_true rfl) (Nat.le_of_ble_eq_true rfl) dX2_countCrossings_70 (by rw [show k = n by omega]) (by rfl)
      · -- on
        refine lv_iconst (v := 0) hx hb dX2_countCrossings_14 (by decide) ?_
        refine lv_istore (lv' := [(5, .int 0), (4, .int (nI k)), (3, .int (nI (cnt2 (fX bb (M (11 + 3 * i + 1)) (M (11 + 3 * i + 2)) (M (11 + 3 * j + 1)) (M (11 + 3 * j + 2))) u k))), (0, .ref (xa x (11 + 3 * i))), (1, .ref (xa x (11 + 3 * j))), (2, .int (bI bb))]) hx hb dX2_countCrossings_15 hl (by decide) rfl (fun ls hl => ?_)
        have lp_17 : ∀ (nn t : Nat), u - t < nn → t ≤ u → ∀ (H : Heap) (locs : List Loc), va_P (xD x) vwCl (wAll x M) H → va_S (gF x) s.heap H locs → ∀ ls : Array Slot, lv_has ls 6 [(5, .int (nI t)), (4, .int (nI k)), (3, .int (nI (cnt2 (fX bb (M (11 + 3 * i + 1)) (M (11 + 3 * i + 2)) (M (11 + 3 * j + 1)) (M (11 + 3 * j + 2))) u k + cntB ((fX bb (M (11 + 3 * i + 1)) (M (11 + 3 * i + 2)) (M (11 + 3 * j + 1)) (M (11 + 3 * j + 2))) k) t))), (0, .ref (xa x (11 + 3 * i))), (1, .ref (xa x (11 + 3 * j))), (2, .int (bI bb))] → W p l e ({ frames := 4, cells := 0, slots := 0, locals := 92 }) s m ([.ref (xa x (11 + 3 * i)), .ref (xa x (11 + 3 * j)), .int (bI bb)] : List Value).toArray below meth c H locs 0 0 (MQ below (gQ x (some (.int (nI (cnt2 (fX bb (M (11 + 3 * i + 1)) (M (11 + 3 * i + 2)) (M (11 + 3 * j + 1)) (M (11 + 3 * j + 2))) u n)))) M) ([.ref (xa x (11 + 3 * i)), .ref (xa x (11 + 3 * j)), .int (bI bb)] : List Value).toArray s 0 0 (gF x)) (F0 m 17 ls []) := by
          intro nn
          induction nn with
          | zero => intro t hz; exact absurd hz (Nat.not_lt_zero _)
          | succ nn ih_17 =>
            intro t hf_17 hk_17  H locs hP hV ls hl
            refine lv_iload hx hb dX2_countCrossings_17 (lv_at hl 0 rfl) ?_
            refine lv_aload_n hx hb dX2_countCrossings_19 rfl (lv_at hl 4 rfl) ?_
            refine g_call1 (va_runVN (As := []) (rest := [.int (nI t)]) ⟨hx, hb, hml, hown, hts⟩ (c_X1_pieces l x M j u (by omega) hu) ⟨va_cnB (host := RX2) 0 hts gX2_countCrossings_X1_pieces_n200 rfl rfl rfl (hS.2.2.2.2.1 _ (by decide +kernel)) hw_iX1 (by decide +kernel) ⟨Nat.le_of_ble_eq_true rfl, Nat.le_of_ble_eq_true rfl⟩, hw_imX1_pieces, hw_seX1_pieces⟩ (g_preV hS hZ hP hV [] (id := 11 + 3 * j) (by omega) (sh_r x _ (by omega)) rfl) rfl rfl hl.1 rfl (lv_room (Nat.le_of_ble_eq_true rfl)) dX2_countCrossings_20 ⟨Nat.le_of_ble_eq_true rfl, Nat.le_of_ble_eq_true rfl⟩) hV (fun H locs hP hV => ?_)
            refine h_icmp_ge_n (a := t) (b := u) (tgt := 63) hx hb (by omega) (by omega) dX2_countCrossings_23 (by decide) (fun c_2 => ?_) (fun c_2 => ?_)
            · -- taken
              refine lv_iinc (v := nI (k + 1)) (lv' := [(4, .int (nI (k + 1))), (5, .int (nI t)), (3, .int (nI (cnt2 (fX bb (M (11 + 3 * i + 1)) (M (11 + 3 * i + 2)) (M (11 + 3 * j + 1)) (M (11 + 3 * j + 2))) u k + cntB ((fX bb (M (11 + 3 * i + 1)) (M (11 + 3 * i + 2)) (M (11 + 3 * j + 1)) (M (11 + 3 * j + 2))) k) t))), (0, .ref (xa x (11 + 3 * i))), (1, .ref (xa x (11 + 3 * j))), (2, .int (bI bb))]) hx hb dX2_countCrossings_63 hl (k := 1) rfl (nI_add (k) 1) (by decide) rfl (fun ls hl => ?_)
              refine lv_goto (tgt := 5) hx hb dX2_countCrossings_66 (by decide) ?_
              exact ih_5 (k + 1) (by omega) (by omega)  _ _ hP hV ls (lv_sub hl [0, 2, 3, 4, 5] (show ([(4, .int (nI (k + 1))), (3, .int (nI (cnt2 (fX bb (M (11 + 3 * i + 1)) (M (11 + 3 * i + 2)) (M (11 + 3 * j + 1)) (M (11 + 3 * j + 2))) u k + cntB ((fX bb (M (11 + 3 * i + 1)) (M (11 + 3 * i + 2)) (M (11 + 3 * j + 1)) (M (11 + 3 * j + 2))) k) t))), (0, .ref (xa x (11 + 3 * i))), (1, .ref (xa x (11 + 3 * j))), (2, .int (bI bb))] : List (Nat × Value)) = [(4, .int (nI (k + 1))), (3, .int (nI (cnt2 (fX bb (M (11 + 3 * i + 1)) (M (11 + 3 * i + 2)) (M (11 + 3 * j + 1)) (M (11 + 3 * j + 2))) u (k + 1)))), (0, .ref (xa x (11 + 3 * i))), (1, .ref (xa x (11 + 3 * j))), (2, .int (bI bb))] from by simp [cnt2, show t = u by omega]))
            · -- on
              refine lv_aload_n hx hb dX2_countCrossings_26 rfl (lv_at hl 3 rfl) ?_
              refine lv_iload hx hb dX2_countCrossings_27 (lv_at hl 1 rfl) ?_
              refine lv_aload_n hx hb dX2_countCrossings_29 rfl (lv_at hl 4 rfl) ?_
              refine lv_iload hx hb dX2_countCrossings_30 (lv_at hl 0 rfl) ?_
              refine g_call1 (va_runVN (As := [.int (nI k), .ref (xa x (11 + 3 * j)), .int (nI t)]) (rest := []) ⟨hx, hb, hml, hown, hts⟩ (c_X1_pieceCrosses l x M i k j t (by omega) (by omega) (by omega) (by omega)) ⟨va_cnB (host := RX2) 3 hts gX2_countCrossings_X1_pieceCrosses_n215 rfl rfl rfl (hS.2.2.2.2.1 _ (by decide +kernel)) hw_iX1 (by decide +kernel) ⟨Nat.le_of_ble_eq_true rfl, Nat.le_of_ble_eq_true rfl⟩, hw_imX1_pieceCrosses, hw_seX1_pieceCrosses⟩ (g_preV hS hZ hP hV [.int (nI k), .ref (xa x (11 + 3 * j)), .int (nI t)] (id := 11 + 3 * i) (by omega) (sh_r x _ (by omega)) rfl) rfl rfl hl.1 rfl (lv_room (Nat.le_of_ble_eq_true rfl)) dX2_countCrossings_32 ⟨Nat.le_of_ble_eq_true rfl, Nat.le_of_ble_eq_true rfl⟩) hV (fun H locs hP hV => ?_)
              refine h_if_eq_b (tgt := 57) hx hb dX2_countCrossings_35 (by decide) (fun c_3 => ?_) (fun c_3 => ?_)
              · -- taken
                refine lv_iinc (v := nI (t + 1)) (lv' := [(5, .int (nI (t + 1))), (4, .int (nI k)), (3, .int (nI (cnt2 (fX bb (M (11 + 3 * i + 1)) (M (11 + 3 * i + 2)) (M (11 + 3 * j + 1)) (M (11 + 3 * j + 2))) u k + cntB ((fX bb (M (11 + 3 * i + 1)) (M (11 + 3 * i + 2)) (M (11 + 3 * j + 1)) (M (11 + 3 * j + 2))) k) t))), (0, .ref (xa x (11 + 3 * i))), (1, .ref (xa x (11 + 3 * j))), (2, .int (bI bb))]) hx hb dX2_countCrossings_57 hl (k := 0) rfl (nI_add (t) 1) (by decide) rfl (fun ls hl => ?_)
                refine lv_goto (tgt := 17) hx hb dX2_countCrossings_60 (by decide) ?_
                exact ih_17 (t + 1) (by omega) (by omega)  _ _ hP hV ls (lv_sub hl [0, 1, 2, 3, 4, 5] (show ([(5, .int (nI (t + 1))), (4, .int (nI k)), (3, .int (nI (cnt2 (fX bb (M (11 + 3 * i + 1)) (M (11 + 3 * i + 2)) (M (11 + 3 * j + 1)) (M (11 + 3 * j + 2))) u k + cntB ((fX bb (M (11 + 3 * i + 1)) (M (11 + 3 * i + 2)) (M (11 + 3 * j + 1)) (M (11 + 3 * j + 2))) k) t))), (0, .ref (xa x (11 + 3 * i))), (1, .ref (xa x (11 + 3 * j))), (2, .int (bI bb))] : List (Nat × Value)) = [(5, .int (nI (t + 1))), (4, .int (nI k)), (3, .int (nI (cnt2 (fX bb (M (11 + 3 * i + 1)) (M (11 + 3 * i + 2)) (M (11 + 3 * j + 1)) (M (11 + 3 * j + 2))) u k + cntB ((fX bb (M (11 + 3 * i + 1)) (M (11 + 3 * i + 2)) (M (11 + 3 * j + 1)) (M (11 + 3 * j + 2))) k) (t + 1)))), (0, .ref (xa x (11 + 3 * i))), (1, .ref (xa x (11 + 3 * j))), (2, .int (bI bb))] from by have hv : (fX bb (M (11 + 3 * i + 1)) (M (11 + 3 * i + 2)) (M (11 + 3 * j + 1)) (M (11 + 3 * j + 2))) k t = false := (by simp [fX, c_1, c_2, c_3]); rw [cntB_f (f := (fX bb (M (11 + 3 * i + 1)) (M (11 + 3 * i + 2)) (M (11 + 3 * j + 1)) (M (11 + 3 * j + 2))) k) (t := t) hv]; try rfl))
              · -- on
                refine lv_iload_n hx hb dX2_countCrossings_38 rfl (lv_at hl 5 rfl) ?_
                refine h_if_eq_b (tgt := 54) hx hb dX2_countCrossings_39 (by decide) (fun c_4 => ?_) (fun c_4 => ?_)
                · -- taken
                  refine lv_iinc (v := nI ((cnt2 (fX bb (M (11 + 3 * i + 1)) (M (11 + 3 * i + 2)) (M (11 + 3 * j + 1)) (M (11 + 3 * j + 2))) u k + cntB ((fX bb (M (11 + 3 * i + 1)) (M (11 + 3 * i + 2)) (M (11 + 3 * j + 1)) (M (11 + 3 * j + 2))) k) t) + 1)) (lv' := [(3, .int (nI ((cnt2 (fX bb (M (11 + 3 * i + 1)) (M (11 + 3 * i + 2)) (M (11 + 3 * j + 1)) (M (11 + 3 * j + 2))) u k + cntB ((fX bb (M (11 + 3 * i + 1)) (M (11 + 3 * i + 2)) (M (11 + 3 * j + 1)) (M (11 + 3 * j + 2))) k) t) + 1))), (5, .int (nI t)), (4, .int (nI k)), (0, .ref (xa x (11 + 3 * i))), (1, .ref (xa x (11 + 3 * j))), (2, .int (bI bb))]) hx hb dX2_countCrossings_54 hl (k := 2) rfl (nI_add (cnt2 (fX bb (M (11 + 3 * i + 1)) (M (11 + 3 * i + 2)) (M (11 + 3 * j + 1)) (M (11 + 3 * j + 2))) u k + cntB ((fX bb (M (11 + 3 * i + 1)) (M (11 + 3 * i + 2)) (M (11 + 3 * j + 1)) (M (11 + 3 * j + 2))) k) t) 1) (by decide) rfl (fun ls hl => ?_)
                  refine lv_iinc (v := nI (t + 1)) (lv' := [(5, .int (nI (t + 1))), (3, .int (nI ((cnt2 (fX bb (M (11 + 3 * i + 1)) (M (11 + 3 * i + 2)) (M (11 + 3 * j + 1)) (M (11 + 3 * j + 2))) u k + cntB ((fX bb (M (11 + 3 * i + 1)) (M (11 + 3 * i + 2)) (M (11 + 3 * j + 1)) (M (11 + 3 * j + 2))) k) t) + 1))), (4, .int (nI k)), (0, .ref (xa x (11 + 3 * i))), (1, .ref (xa x (11 + 3 * j))), (2, .int (bI bb))]) hx hb dX2_countCrossings_57 hl (k := 1) rfl (nI_add (t) 1) (by decide) rfl (fun ls hl => ?_)
                  refine lv_goto (tgt := 17) hx hb dX2_countCrossings_60 (by decide) ?_
                  exact ih_17 (t + 1) (by omega) (by omega)  _ _ hP hV ls (lv_sub hl [0, 2, 1, 3, 4, 5] (show ([(5, .int (nI (t + 1))), (4, .int (nI k)), (3, .int (nI ((cnt2 (fX bb (M (11 + 3 * i + 1)) (M (11 + 3 * i + 2)) (M (11 + 3 * j + 1)) (M (11 + 3 * j + 2))) u k + cntB ((fX bb (M (11 + 3 * i + 1)) (M (11 + 3 * i + 2)) (M (11 + 3 * j + 1)) (M (11 + 3 * j + 2))) k) t) + 1))), (0, .ref (xa x (11 + 3 * i))), (1, .ref (xa x (11 + 3 * j))), (2, .int (bI bb))] : List (Nat × Value)) = [(5, .int (nI (t + 1))), (4, .int (nI k)), (3, .int (nI (cnt2 (fX bb (M (11 + 3 * i + 1)) (M (11 + 3 * i + 2)) (M (11 + 3 * j + 1)) (M (11 + 3 * j + 2))) u k + cntB ((fX bb (M (11 + 3 * i + 1)) (M (11 + 3 * i + 2)) (M (11 + 3 * j + 1)) (M (11 + 3 * j + 2))) k) (t + 1)))), (0, .ref (xa x (11 + 3 * i))), (1, .ref (xa x (11 + 3 * j))), (2, .int (bI bb))] from by have hv : (fX bb (M (11 + 3 * i + 1)) (M (11 + 3 * i + 2)) (M (11 + 3 * j + 1)) (M (11 + 3 * j + 2))) k t = true := (by simp [fX, c_1, c_2, c_3, c_4]); rw [cntB_t (f := (fX bb (M (11 + 3 * i + 1)) (M (11 + 3 * i + 2)) (M (11 + 3 * j + 1)) (M (11 + 3 * j + 2))) k) (t := t) hv]; try rfl))
                · -- on
                  refine lv_aload_n hx hb dX2_countCrossings_42 rfl (lv_at hl 3 rfl) ?_
                  refine lv_iload hx hb dX2_countCrossings_43 (lv_at hl 1 rfl) ?_
                  refine lv_aload_n hx hb dX2_countCrossings_45 rfl (lv_at hl 4 rfl) ?_
                  refine lv_iload hx hb dX2_countCrossings_46 (lv_at hl 0 rfl) ?_
                  refine g_call1 (va_runVN (As := [.int (nI k), .ref (xa x (11 + 3 * j)), .int (nI t)]) (rest := []) ⟨hx, hb, hml, hown, hts⟩ (c_X1_pieceIsSteepTo l x M i k j t (by omega) (by omega) (by omega) (by omega)) ⟨va_cnB (host := RX2) 3 hts gX2_countCrossings_X1_pieceIsSteepTo_n219 rfl rfl rfl (hS.2.2.2.2.1 _ (by decide +kernel)) hw_iX1 (by decide +kernel) ⟨Nat.le_of_ble_eq_true rfl, Nat.le_of_ble_eq_true rfl⟩, hw_imX1_pieceIsSteepTo, hw_seX1_pieceIsSteepTo⟩ (g_preV hS hZ hP hV [.int (nI k), .ref (xa x (11 + 3 * j)), .int (nI t)] (id := 11 + 3 * i) (by omega) (sh_r x _ (by omega)) rfl) rfl rfl hl.1 rfl (lv_room (Nat.le_of_ble_eq_true rfl)) dX2_countCrossings_48 ⟨Nat.le_of_ble_eq_true rfl, Nat.le_of_ble_eq_true rfl⟩) hV (fun H locs hP hV => ?_)
                  refine h_if_eq_b (tgt := 57) hx hb dX2_countCrossings_51 (by decide) (fun c_5 => ?_) (fun c_5 => ?_)
                  · -- taken
                    refine lv_iinc (v := nI (t + 1)) (lv' := [(5, .int (nI (t + 1))), (4, .int (nI k)), (3, .int (nI (cnt2 (fX bb (M (11 + 3 * i + 1)) (M (11 + 3 * i + 2)) (M (11 + 3 * j + 1)) (M (11 + 3 * j + 2))) u k + cntB ((fX bb (M (11 + 3 * i + 1)) (M (11 + 3 * i + 2)) (M (11 + 3 * j + 1)) (M (11 + 3 * j + 2))) k) t))), (0, .ref (xa x (11 + 3 * i))), (1, .ref (xa x (11 + 3 * j))), (2, .int (bI bb))]) hx hb dX2_countCrossings_57 hl (k := 0) rfl (nI_add (t) 1) (by decide) rfl (fun ls hl => ?_)
                    refine lv_goto (tgt := 17) hx hb dX2_countCrossings_60 (by decide) ?_
                    exact ih_17 (t + 1) (by omega) (by omega)  _ _ hP hV ls (lv_sub hl [0, 1, 2, 3, 4, 5] (show ([(5, .int (nI (t + 1))), (4, .int (nI k)), (3, .int (nI (cnt2 (fX bb (M (11 + 3 * i + 1)) (M (11 + 3 * i + 2)) (M (11 + 3 * j + 1)) (M (11 + 3 * j + 2))) u k + cntB ((fX bb (M (11 + 3 * i + 1)) (M (11 + 3 * i + 2)) (M (11 + 3 * j + 1)) (M (11 + 3 * j + 2))) k) t))), (0, .ref (xa x (11 + 3 * i))), (1, .ref (xa x (11 + 3 * j))), (2, .int (bI bb))] : List (Nat × Value)) = [(5, .int (nI (t + 1))), (4, .int (nI k)), (3, .int (nI (cnt2 (fX bb (M (11 + 3 * i + 1)) (M (11 + 3 * i + 2)) (M (11 + 3 * j + 1)) (M (11 + 3 * j + 2))) u k + cntB ((fX bb (M (11 + 3 * i + 1)) (M (11 + 3 * i + 2)) (M (11 + 3 * j + 1)) (M (11 + 3 * j + 2))) k) (t + 1)))), (0, .ref (xa x (11 + 3 * i))), (1, .ref (xa x (11 + 3 * j))), (2, .int (bI bb))] from by have hv : (fX bb (M (11 + 3 * i + 1)) (M (11 + 3 * i + 2)) (M (11 + 3 * j + 1)) (M (11 + 3 * j + 2))) k t = false := (by simp [fX, c_1, c_2, c_3, c_4, c_5]); rw [cntB_f (f := (fX bb (M (11 + 3 * i + 1)) (M (11 + 3 * i + 2)) (M (11 + 3 * j + 1)) (M (11 + 3 * j + 2))) k) (t := t) hv]; try rfl))
                  · -- on
                    refine lv_iinc (v := nI ((cnt2 (fX bb (M (11 + 3 * i + 1)) (M (11 + 3 * i + 2)) (M (11 + 3 * j + 1)) (M (11 + 3 * j + 2))) u k + cntB ((fX bb (M (11 + 3 * i + 1)) (M (11 + 3 * i + 2)) (M (11 + 3 * j + 1)) (M (11 + 3 * j + 2))) k) t) + 1)) (lv' := [(3, .int (nI ((cnt2 (fX bb (M (11 + 3 * i + 1)) (M (11 + 3 * i + 2)) (M (11 + 3 * j + 1)) (M (11 + 3 * j + 2))) u k + cntB ((fX bb (M (11 + 3 * i + 1)) (M (11 + 3 * i + 2)) (M (11 + 3 * j + 1)) (M (11 + 3 * j + 2))) k) t) + 1))), (5, .int (nI t)), (4, .int (nI k)), (0, .ref (xa x (11 + 3 * i))), (1, .ref (xa x (11 + 3 * j))), (2, .int (bI bb))]) hx hb dX2_countCrossings_54 hl (k := 2) rfl (nI_add (cnt2 (fX bb (M (11 + 3 * i + 1)) (M (11 + 3 * i + 2)) (M (11 + 3 * j + 1)) (M (11 + 3 * j + 2))) u k + cntB ((fX bb (M (11 + 3 * i + 1)) (M (11 + 3 * i + 2)) (M (11 + 3 * j + 1)) (M (11 + 3 * j + 2))) k) t) 1) (by decide) rfl (fun ls hl => ?_)
                    refine lv_iinc (v := nI (t + 1)) (lv' := [(5, .int (nI (t + 1))), (3, .int (nI ((cnt2 (fX bb (M (11 + 3 * i + 1)) (M (11 + 3 * i + 2)) (M (11 + 3 * j + 1)) (M (11 + 3 * j + 2))) u k + cntB ((fX bb (M (11 + 3 * i + 1)) (M (11 + 3 * i + 2)) (M (11 + 3 * j + 1)) (M (11 + 3 * j + 2))) k) t) + 1))), (4, .int (nI k)), (0, .ref (xa x (11 + 3 * i))), (1, .ref (xa x (11 + 3 * j))), (2, .int (bI bb))]) hx hb dX2_countCrossings_57 hl (k := 1) rfl (nI_add (t) 1) (by decide) rfl (fun ls hl => ?_)
                    refine lv_goto (tgt := 17) hx hb dX2_countCrossings_60 (by decide) ?_
                    exact ih_17 (t + 1) (by omega) (by omega)  _ _ hP hV ls (lv_sub hl [0, 2, 1, 3, 4, 5] (show ([(5, .int (nI (t + 1))), (4, .int (nI k)), (3, .int (nI ((cnt2 (fX bb (M (11 + 3 * i + 1)) (M (11 + 3 * i + 2)) (M (11 + 3 * j + 1)) (M (11 + 3 * j + 2))) u k + cntB ((fX bb (M (11 + 3 * i + 1)) (M (11 + 3 * i + 2)) (M (11 + 3 * j + 1)) (M (11 + 3 * j + 2))) k) t) + 1))), (0, .ref (xa x (11 + 3 * i))), (1, .ref (xa x (11 + 3 * j))), (2, .int (bI bb))] : List (Nat × Value)) = [(5, .int (nI (t + 1))), (4, .int (nI k)), (3, .int (nI (cnt2 (fX bb (M (11 + 3 * i + 1)) (M (11 + 3 * i + 2)) (M (11 + 3 * j + 1)) (M (11 + 3 * j + 2))) u k + cntB ((fX bb (M (11 + 3 * i + 1)) (M (11 + 3 * i + 2)) (M (11 + 3 * j + 1)) (M (11 + 3 * j + 2))) k) (t + 1)))), (0, .ref (xa x (11 + 3 * i))), (1, .ref (xa x (11 + 3 * j))), (2, .int (bI bb))] from by have hv : (fX bb (M (11 + 3 * i + 1)) (M (11 + 3 * i + 2)) (M (11 + 3 * j + 1)) (M (11 + 3 * j + 2))) k t = true := (by simp [fX, c_1, c_2, c_3, c_4, c_5]); rw [cntB_t (f := (fX bb (M (11 + 3 * i + 1)) (M (11 + 3 * i + 2)) (M (11 + 3 * j + 1)) (M (11 + 3 * j + 2))) k) (t := t) hv]; try rfl))
        exact lp_17 (u - (0) + 1) (0) (by omega) (by omega)  _ _ hP hV ls (lv_sub hl [0, 1, 2, 3, 4, 5] (show ([(5, .int 0), (4, .int (nI k)), (3, .int (nI (cnt2 (fX bb (M (11 + 3 * i + 1)) (M (11 + 3 * i + 2)) (M (11 + 3 * j + 1)) (M (11 + 3 * j + 2))) u k))), (0, .ref (xa x (11 + 3 * i))), (1, .ref (xa x (11 + 3 * j))), (2, .int (bI bb))] : List (Nat × Value)) = [(5, .int 0), (4, .int (nI k)), (3, .int (nI (cnt2 (fX bb (M (11 + 3 * i + 1)) (M (11 + 3 * i + 2)) (M (11 + 3 * j + 1)) (M (11 + 3 * j + 2))) u k + cntB ((fX bb (M (11 + 3 * i + 1)) (M (11 + 3 * i + 2)) (M (11 + 3 * j + 1)) (M (11 + 3 * j + 2))) k) 0))), (0, .ref (xa x (11 + 3 * i))), (1, .ref (xa x (11 + 3 * j))), (2, .int (bI bb))] from by rfl))
  exact lp_5 (n - (0) + 1) (0) (by omega) (by omega)  _ _ hP hV ls (lv_sub hl [0, 1, 2, 3, 4] (show ([(4, .int 0), (3, .int 0), (0, .ref (xa x (11 + 3 * i))), (1, .ref (xa x (11 + 3 * j))), (2, .int (bI bb))] : List (Nat × Value)) = [(4, .int 0), (3, .int (nI (cnt2 (fX bb (M (11 + 3 * i + 1)) (M (11 + 3 * i + 2)) (M (11 + 3 * j + 1)) (M (11 + 3 * j + 2))) u 0))), (0, .ref (xa x (11 + 3 * i))), (1, .ref (xa x (11 + 3 * j))), (2, .int (bI bb))] from by rfl))
set_option maxHeartbeats 4000000 in
set_option maxRecDepth 100000 in
theorem c_X2_recount (l : Launch) (x : Cx) (M : Nat → Nat → Int32) (cn gn dn : Nat) (pn : Nat → Nat) (a b : Nat) (hO : OkO M cn gn dn pn) (ha : a < cn) (hb8 : b < cn) : Met l yX2_recount wsX2_recount ({ frames := 5, cells := 0, slots := 0, locals := 117 }) (gP x M [.ref (xa x 0), .int (nI a), .int (nI b)]) (gQ x none (recM M pn a b)) 0 0 (gF x) := by
  refine g_met (cc := cX2_recount) (maxL := 4) (ret := none) (by decide) rfl (Nat.le_of_ble_eq_true rfl) ?_
  intro p e s m below meth c hx hb hr hml hts hown hlk hS hZ hP hV ls hl
  have hl : lv_has ls 4 [(0, .ref (xa x 0)), (1, .int (nI a)), (2, .int (nI b))] := hl
  have hw_f24 := hts (.fieldLink RX2 24 "CableOffice" "crossed" "[I") (by decide +kernel)
  have hinX2 : ∀ w ∈ wsX20, w ∈ wsX2_recount := by decide +kernel
  have hw_f16 := hts (.fieldLink RX2 16 "CableOffice" "routes" "[LCableOffice$Route;") (by decide +kernel)
  have hw_f28 := hts (.fieldLink RX2 28 "CableOffice" "crossedSteeply" "[I") (by decide +kernel)
  have hc8 := hO.c8
  have hg5 := hO.g5
  have hd8 := hO.d8
  have h7a := hO.p7 ha
  have h7b := hO.p7 hb8
  have hp64 := pr_lt (show a < 8 by omega) (show b < 8 by omega)
  refine lv_iload_n hx hb dX2_recount_0 rfl (lv_at hl 1 rfl) ?_
  refine lv_iload_n hx hb dX2_recount_1 rfl (lv_at hl 2 rfl) ?_
  refine g_call1 (va_runS (As := [.int (nI a), .int (nI b)]) (rest := []) ⟨hx, hb, hml, hown, hts⟩ (c_X2_pairOf l x M a b (by omega) (by omega)) (va_cwS 2 hts gX2_recount_X2_pairOf rfl rfl rfl (by decide +kernel) ⟨Nat.le_of_ble_eq_true rfl, Nat.le_of_ble_eq_true rfl⟩) (g_preS hS hZ hP hV [.int (nI a), .int (nI b)]) rfl rfl hl.1 rfl (lv_room (Nat.le_of_ble_eq_true rfl)) dX2_recount_2 ⟨Nat.le_of_ble_eq_true rfl, Nat.le_of_ble_eq_true rfl⟩) hV (fun H locs hP hV => ?_)
  refine lv_istore_n (lv' := [(3, .int (nI (pr a b))), (0, .ref (xa x 0)), (1, .int (nI a)), (2, .int (nI b))]) hx hb dX2_recount_5 rfl hl (by decide) rfl (fun ls hl => ?_)
  refine lv_aload_n hx hb dX2_recount_6 rfl (lv_at hl 1 rfl) ?_
  refine g_get (C := RX2) (T := TX2) (N := 9) (v := .ref (xa x 2)) hx hb hts hinX2 hown hS hP (id := 0) (by decide) rfl rfl 3 (by decide) hw_f24 rfl dX2_recount_7 ?_
  refine lv_iload_n hx hb dX2_recount_10 rfl (lv_at hl 0 rfl) ?_
  refine lv_aload_n hx hb dX2_recount_11 rfl (lv_at hl 1 rfl) ?_
  refine g_get (C := RX2) (T := TX2) (N := 9) (v := .ref (xa x 1)) hx hb hts hinX2 hown hS hP (id := 0) (by decide) rfl rfl 1 (by decide) hw_f16 rfl dX2_recount_12 ?_
  refine lv_iload_n hx hb dX2_recount_15 rfl (lv_at hl 2 rfl) ?_
  refine g_aaldR (j := a) hx hb hS hP rfl (by omega) dX2_recount_16 ?_
  refine lv_aload_n hx hb dX2_recount_17 rfl (lv_at hl 1 rfl) ?_
  refine g_get (C := RX2) (T := TX2) (N := 9) (v := .ref (xa x 1)) hx hb hts hinX2 hown hS hP (id := 0) (by decide) rfl rfl 1 (by decide) hw_f16 rfl dX2_recount_18 ?_
  refine lv_iload_n hx hb dX2_recount_21 rfl (lv_at hl 3 rfl) ?_
  refine g_aaldR (j := b) hx hb hS hP rfl (by omega) dX2_recount_22 ?_
  refine lv_iconst (v := 0) hx hb dX2_recount_23 (by decide) ?_
  refine g_call1 (va_runS (As := [.ref (xa x (11 + 3 * a)), .ref (xa x (11 + 3 * b)), .int 0]) (rest := [.int (nI (pr a b)), .ref (xa x 2)]) ⟨hx, hb, hml, hown, hts⟩ (c_X2_countCrossings l x M a b (pn a) (pn b) false (by omega) (by omega) (hO.p (by omega)) (hO.p (by omega)) (by omega) (by omega)) (va_cwS 3 hts gX2_recount_X2_countCrossings rfl rfl rfl (by decide +kernel) ⟨Nat.le_of_ble_eq_true rfl, Nat.le_of_ble_eq_true rfl⟩) (g_preS hS hZ hP hV [.ref (xa x (11 + 3 * a)), .ref (xa x (11 + 3 * b)), .int 0]) rfl rfl hl.1 rfl (lv_room (Nat.le_of_ble_eq_true rfl)) dX2_recount_24 ⟨Nat.le_of_ble_eq_true rfl, Nat.le_of_ble_eq_true rfl⟩) hV (fun H locs hP hV => ?_)
  refine g_iast (j := pr a b) hx hb hS hP hV (id := 2) (by omega) (fun _ => rfl) (by decide) rfl (by omega) dX2_recount_27 (fun H locs hP hV => ?_)
  have hO_1 : OkO (up2 M 2 (pr a b) (nI (cnX false M pn a b))) cn gn dn pn := hO.up (by omega)
  refine lv_aload_n hx hb dX2_recount_28 rfl (lv_at hl 1 rfl) ?_
  refine g_get (C := RX2) (T := TX2) (N := 9) (v := .ref (xa x 3)) hx hb hts hinX2 hown hS hP (id := 0) (by decide) rfl rfl 4 (by decide) hw_f28 rfl dX2_recount_29 ?_
  refine lv_iload_n hx hb dX2_recount_32 rfl (lv_at hl 0 rfl) ?_
  refine lv_aload_n hx hb dX2_recount_33 rfl (lv_at hl 1 rfl) ?_
  refine g_get (C := RX2) (T := TX2) (N := 9) (v := .ref (xa x 1)) hx hb hts hinX2 hown hS hP (id := 0) (by decide) rfl rfl 1 (by decide) hw_f16 rfl dX2_recount_34 ?_
  refine lv_iload_n hx hb dX2_recount_37 rfl (lv_at hl 2 rfl) ?_
  refine g_aaldR (j := a) hx hb hS hP rfl (by omega) dX2_recount_38 ?_
  refine lv_aload_n hx hb dX2_recount_39 rfl (lv_at hl 1 rfl) ?_
  refine g_get (C := RX2) (T := TX2) (N := 9) (v := .ref (xa x 1)) hx hb hts hinX2 hown hS hP (id := 0) (by decide) rfl rfl 1 (by decide) hw_f16 rfl dX2_recount_40 ?_
  refine lv_iload_n hx hb dX2_recount_43 rfl (lv_at hl 3 rfl) ?_
  refine g_aaldR (j := b) hx hb hS hP rfl (by omega) dX2_recount_44 ?_
  refine lv_iconst (v := 1) hx hb dX2_recount_45 (by decide) ?_
  refine g_call1 (va_runS (As := [.ref (xa x (11 + 3 * a)), .ref (xa x (11 + 3 * b)), .int 1]) (rest := [.int (nI (pr a b)), .ref (xa x 3)]) ⟨hx, hb, hml, hown, hts⟩ (c_X2_countCrossings l x (up2 M 2 (pr a b) (nI (cnX false M pn a b))) a b (pn a) (pn b) true (by omega) (by omega) (hO_1.p (by omega)) (hO_1.p (by omega)) (by omega) (by omega)) (va_cwS 3 hts gX2_recount_X2_countCrossings rfl rfl rfl (by decide +kernel) ⟨Nat.le_of_ble_eq_true rfl, Nat.le_of_ble_eq_true rfl⟩) (g_preS hS hZ hP hV [.ref (xa x (11 + 3 * a)), .ref (xa x (11 + 3 * b)), .int 1]) rfl rfl hl.1 rfl (lv_room (Nat.le_of_ble_eq_true rfl)) dX2_recount_46 ⟨Nat.le_of_ble_eq_true rfl, Nat.le_of_ble_eq_true rfl⟩) hV (fun H locs hP hV => ?_)
  refine g_iast (j := pr a b) hx hb hS hP hV (id := 3) (by omega) (fun _ => rfl) (by decide) rfl (by omega) dX2_recount_49 (fun H locs hP hV => ?_)
  have hO_2 : OkO (up2 (up2 M 2 (pr a b) (nI (cnX false M pn a b))) 3 (pr a b) (nI (cnX true (up2 M 2 (pr a b) (nI (cnX false M pn a b))) pn a b))) cn gn dn pn := hO_1.up (by omega)
  exact g_vret hx hb hr hlk hS hZ hP hV (Nat.le_of_ble_eq_true rfl) (Nat.le_of_ble_eq_true rfl) dX2_recount_50 (by rfl)
set_option maxHeartbeats 4000000 in
set_option maxRecDepth 100000 in
theorem c_X2_countBarePairs (l : Launch) (x : Cx) (M : Nat → Nat → Int32) (cn gn dn : Nat) (pn : Nat → Nat) (hO : OkO M cn gn dn pn) : Met l yX2_countBarePairs wsX2_countBarePairs ({ frames := 2, cells := 0, slots := 0, locals := 42 }) (gP x M [.ref (xa x 0)]) (gQ x (some (.int (nI (bpO M cn cn)))) M) 0 0 (gF x) := by
  refine g_met (cc := cX2_countBarePairs) (maxL := 5) (ret := some .int) (by decide) rfl (Nat.le_of_ble_eq_true rfl) ?_
  intro p e s m below meth c hx hb hr hml hts hown hlk hS hZ hP hV ls hl
  have hl : lv_has ls 5 [(0, .ref (xa x 0))] := hl
  have hw_f20 := hts (.fieldLink RX2 20 "CableOffice" "cableCount" "I") (by decide +kernel)
  have hinX2 : ∀ w ∈ wsX20, w ∈ wsX2_countBarePairs := by decide +kernel
  have hw_f24 := hts (.fieldLink RX2 24 "CableOffice" "crossed" "[I") (by decide +kernel)
  have hw_f31 := hts (.fieldLink RX2 31 "CableOffice" "agreed" "[Z") (by decide +kernel)
  have hc8 := hO.c8
  have hg5 := hO.g5
  have hd8 := hO.d8
  refine lv_iconst (v := 0) hx hb dX2_countBarePairs_0 (by decide) ?_
  refine lv_istore_n (lv' := [(1, .int 0), (0, .ref (xa x 0))]) hx hb dX2_countBarePairs_1 rfl hl (by decide) rfl (fun ls hl => ?_)
  refine lv_iconst (v := 0) hx hb dX2_countBarePairs_2 (by decide) ?_
  refine lv_istore_n (lv' := [(2, .int 0), (1, .int 0), (0, .ref (xa x 0))]) hx hb dX2_countBarePairs_3 rfl hl (by decide) rfl (fun ls hl => ?_)
  have lp_4 : ∀ (nn k : Nat), cn - k < nn → k ≤ cn → ∀ (H : Heap) (locs : List Loc), va_P (xD x) vwCl (wAll x M) H → va_S (gF x) s.heap H locs → ∀ ls : Array Slot, lv_has ls 5 [(2, .int (nI k)), (1, .int (nI (bpO M cn k))), (0, .ref (xa x 0))] → W p l e ({ frames := 2, cells := 0, slots := 0, locals := 42 }) s m ([.ref (xa x 0)] : List Value).toArray below meth c H locs 0 0 (MQ below (gQ x (some (.int (nI (bpO M cn cn)))) M) ([.ref (xa x 0)] : List Value).toArray s 0 0 (gF x)) (F0 m 4 ls []) := by
    intro nn
    induction nn with
    | zero => intro k hz; exact absurd hz (Nat.not_lt_zero _)
    | succ nn ih_4 =>
      intro k hf_4 hk_4  H locs hP hV ls hl
      have hbp := bpO_le M cn k
      refine lv_iload_n hx hb dX2_countBarePairs_4 rfl (lv_at hl 0 rfl) ?_
      refine lv_aload_n hx hb dX2_countBarePairs_5 rfl (lv_at hl 2 rfl) ?_
      refine g_get (C := RX2) (T := TX2) (N := 9) (v := .int (nI cn)) hx hb hts hinX2 hown hS hP (id := 0) (by decide) rfl rfl 2 (by decide) hw_f20 (congrArg (fun z => some (Value.int z)) hO.c) dX2_countBarePairs_6 ?_
      refine h_icmp_ge_n (a := k) (b := cn) (tgt := 66) hx hb (by omega) (by omega) dX2_countBarePairs_9 (by decide) (fun c_1 => ?_) (fun c_1 => ?_)
      · -- taken
        refine lv_iload_n hx hb dX2_countBarePairs_66 rfl (lv_at hl 1 rfl) ?_
        exact g_iret hx hb hr hlk hS hZ hP hV (Nat.le_of_ble_eq_true rfl) (Nat.le_of_ble_eq_true rfl) dX2_countBarePairs_67 (by rw [show k = cn by omega]) (by rfl)
      · -- on
        refine lv_iload_n hx hb dX2_countBarePairs_12 rfl (lv_at hl 0 rfl) ?_
        refine lv_iconst (v := 1) hx hb dX2_countBarePairs_13 (by decide) ?_
        refine h_iadd (v := nI (k + 1)) hx hb dX2_countBarePairs_14 (nI_add (k) (1)) ?_
        refine lv_istore_n (lv' := [(3, .int (nI (k + 1))), (2, .int (nI k)), (1, .int (nI (bpO M cn k))), (0, .ref (xa x 0))]) hx hb dX2_countBarePairs_15 rfl hl (by decide) rfl (fun ls hl => ?_)
        have lp_16 : ∀ (nn t : Nat), (cn - (k + 1)) - t < nn → t ≤ (cn - (k + 1)) → ∀ (H : Heap) (locs : List Loc), va_P (xD x) vwCl (wAll x M) H → va_S (gF x) s.heap H locs → ∀ ls : Array Slot, lv_has ls 5 [(3, .int (nI (k + 1 + t))), (2, .int (nI k)), (1, .int (nI (bpO M cn k + cntB (fun j => baO M k (k + 1 + j)) t))), (0, .ref (xa x 0))] → W p l e ({ frames := 2, cells := 0, slots := 0, locals := 42 }) s m ([.ref (xa x 0)] : List Value).toArray below meth c H locs 0 0 (MQ below (gQ x (some (.int (nI (bpO M cn cn)))) M) ([.ref (xa x 0)] : List Value).toArray s 0 0 (gF x)) (F0 m 16 ls []) := by
          intro nn
          induction nn with
          | zero => intro t hz; exact absurd hz (Nat.not_lt_zero _)
          | succ nn ih_16 =>
            intro t hf_16 hk_16  H locs hP hV ls hl
            have hcb := cntB_le (fun j => baO M k (k + 1 + j)) t
            refine lv_iload_n hx hb dX2_countBarePairs_16 rfl (lv_at hl 0 rfl) ?_
            refine lv_aload_n hx hb dX2_countBarePairs_17 rfl (lv_at hl 3 rfl) ?_
            refine g_get (C := RX2) (T := TX2) (N := 9) (v := .int (nI cn)) hx hb hts hinX2 hown hS hP (id := 0) (by decide) rfl rfl 2 (by decide) hw_f20 (congrArg (fun z => some (Value.int z)) hO.c) dX2_countBarePairs_18 ?_
            refine h_icmp_ge_n (a := k + 1 + t) (b := cn) (tgt := 60) hx hb (by omega) (by omega) dX2_countBarePairs_21 (by decide) (fun c_2 => ?_) (fun c_2 => ?_)
            · -- taken
              refine lv_iinc (v := nI (k + 1)) (lv' := [(2, .int (nI (k + 1))), (3, .int (nI (k + 1 + t))), (1, .int (nI (bpO M cn k + cntB (fun j => baO M k (k + 1 + j)) t))), (0, .ref (xa x 0))]) hx hb dX2_countBarePairs_60 hl (k := 1) rfl (nI_add (k) 1) (by decide) rfl (fun ls hl => ?_)
              refine lv_goto (tgt := 4) hx hb dX2_countBarePairs_63 (by decide) ?_
              exact ih_4 (k + 1) (by omega) (by omega)  _ _ hP hV ls (lv_sub hl [0, 2, 3] (show ([(2, .int (nI (k + 1))), (1, .int (nI (bpO M cn k + cntB (fun j => baO M k (k + 1 + j)) t))), (0, .ref (xa x 0))] : List (Nat × Value)) = [(2, .int (nI (k + 1))), (1, .int (nI (bpO M cn (k + 1)))), (0, .ref (xa x 0))] from by simp [bpO, show t = cn - (k + 1) by omega]))
            · -- on
              have hp64 := pr_lt (show k < 8 by omega) (show k + 1 + t < 8 by omega)
              refine lv_iload_n hx hb dX2_countBarePairs_24 rfl (lv_at hl 1 rfl) ?_
              refine lv_iload_n hx hb dX2_countBarePairs_25 rfl (lv_at hl 0 rfl) ?_
              refine g_call1 (va_runS (As := [.int (nI k), .int (nI (k + 1 + t))]) (rest := []) ⟨hx, hb, hml, hown, hts⟩ (c_X2_pairOf l x M k (k + 1 + t) (by omega) (by omega)) (va_cwS 2 hts gX2_countBarePairs_X2_pairOf rfl rfl rfl (by decide +kernel) ⟨Nat.le_of_ble_eq_true rfl, Nat.le_of_ble_eq_true rfl⟩) (g_preS hS hZ hP hV [.int (nI k), .int (nI (k + 1 + t))]) rfl rfl hl.1 rfl (lv_room (Nat.le_of_ble_eq_true rfl)) dX2_countBarePairs_26 ⟨Nat.le_of_ble_eq_true rfl, Nat.le_of_ble_eq_true rfl⟩) hV (fun H locs hP hV => ?_)
              refine lv_istore (lv' := [(4, .int (nI (pr k (k + 1 + t)))), (3, .int (nI (k + 1 + t))), (2, .int (nI k)), (1, .int (nI (bpO M cn k + cntB (fun j => baO M k (k + 1 + j)) t))), (0, .ref (xa x 0))]) hx hb dX2_countBarePairs_29 hl (by decide) rfl (fun ls hl => ?_)
              refine lv_aload_n hx hb dX2_countBarePairs_31 rfl (lv_at hl 4 rfl) ?_
              refine g_get (C := RX2) (T := TX2) (N := 9) (v := .ref (xa x 2)) hx hb hts hinX2 hown hS hP (id := 0) (by decide) rfl rfl 3 (by decide) hw_f24 rfl dX2_countBarePairs_32 ?_
              refine lv_iload hx hb dX2_countBarePairs_35 (lv_at hl 0 rfl) ?_
              refine g_iald (j := pr k (k + 1 + t)) hx hb hS hP (id := 2) (by omega) ((fun _ => rfl) _) (by decide) rfl (by omega) dX2_countBarePairs_37 ?_
              refine lv_if_le (tgt := 54) hx hb dX2_countBarePairs_38 (by decide) (fun c_3 => ?_) (fun c_3 => ?_)
              · -- taken
                refine lv_iinc (v := nI (k + 1 + t + 1)) (lv' := [(3, .int (nI (k + 1 + t + 1))), (4, .int (nI (pr k (k + 1 + t)))), (2, .int (nI k)), (1, .int (nI (bpO M cn k + cntB (fun j => baO M k (k + 1 + j)) t))), (0, .ref (xa x 0))]) hx hb dX2_countBarePairs_54 hl (k := 1) rfl (nI_add (k + 1 + t) 1) (by decide) rfl (fun ls hl => ?_)
                refine lv_goto (tgt := 16) hx hb dX2_countBarePairs_57 (by decide) ?_
                exact ih_16 (t + 1) (by omega) (by omega)  _ _ hP hV ls (lv_sub hl [0, 2, 3, 4] (show ([(3, .int (nI (k + 1 + t + 1))), (2, .int (nI k)), (1, .int (nI (bpO M cn k + cntB (fun j => baO M k (k + 1 + j)) t))), (0, .ref (xa x 0))] : List (Nat × Value)) = [(3, .int (nI (k + 1 + (t + 1)))), (2, .int (nI k)), (1, .int (nI (bpO M cn k + cntB (fun j => baO M k (k + 1 + j)) (t + 1)))), (0, .ref (xa x 0))] from by have hv : (fun j => baO M k (k + 1 + j)) t = false := (by simp [baO, c_1, c_2, c_3]); rw [cntB_f (f := (fun j => baO M k (k + 1 + j))) (t := t) hv]; try rfl))
              · -- on
                refine lv_aload_n hx hb dX2_countBarePairs_41 rfl (lv_at hl 4 rfl) ?_
                refine g_get (C := RX2) (T := TX2) (N := 9) (v := .ref (xa x 4)) hx hb hts hinX2 hown hS hP (id := 0) (by decide) rfl rfl 5 (by decide) hw_f31 rfl dX2_countBarePairs_42 ?_
                refine lv_iload hx hb dX2_countBarePairs_45 (lv_at hl 0 rfl) ?_
                refine g_zald (j := pr k (k + 1 + t)) hx hb hS hP (id := 4) (by omega) ((fun _ => rfl) _) (by decide) rfl (by omega) dX2_countBarePairs_47 ?_
                refine lv_if_ne (tgt := 54) hx hb dX2_countBarePairs_48 (by decide) (fun c_4 => ?_) (fun c_4 => ?_)
                · -- taken
                  refine lv_iinc (v := nI (k + 1 + t + 1)) (lv' := [(3, .int (nI (k + 1 + t + 1))), (4, .int (nI (pr k (k + 1 + t)))), (2, .int (nI k)), (1, .int (nI (bpO M cn k + cntB (fun j => baO M k (k + 1 + j)) t))), (0, .ref (xa x 0))]) hx hb dX2_countBarePairs_54 hl (k := 1) rfl (nI_add (k + 1 + t) 1) (by decide) rfl (fun ls hl => ?_)
                  refine lv_goto (tgt := 16) hx hb dX2_countBarePairs_57 (by decide) ?_
                  exact ih_16 (t + 1) (by omega) (by omega)  _ _ hP hV ls (lv_sub hl [0, 2, 3, 4] (show ([(3, .int (nI (k + 1 + t + 1))), (2, .int (nI k)), (1, .int (nI (bpO M cn k + cntB (fun j => baO M k (k + 1 + j)) t))), (0, .ref (xa x 0))] : List (Nat × Value)) = [(3, .int (nI (k + 1 + (t + 1)))), (2, .int (nI k)), (1, .int (nI (bpO M cn k + cntB (fun j => baO M k (k + 1 + j)) (t + 1)))), (0, .ref (xa x 0))] from by have hv : (fun j => baO M k (k + 1 + j)) t = false := (by simp [baO, c_1, c_2, c_3, c_4]); rw [cntB_f (f := (fun j => baO M k (k + 1 + j))) (t := t) hv]; try rfl))
                · -- on
                  refine lv_iinc (v := nI ((bpO M cn k + cntB (fun j => baO M k (k + 1 + j)) t) + 1)) (lv' := [(1, .int (nI ((bpO M cn k + cntB (fun j => baO M k (k + 1 + j)) t) + 1))), (4, .int (nI (pr k (k + 1 + t)))), (3, .int (nI (k + 1 + t))), (2, .int (nI k)), (0, .ref (xa x 0))]) hx hb dX2_countBarePairs_51 hl (k := 3) rfl (nI_add (bpO M cn k + cntB (fun j => baO M k (k + 1 + j)) t) 1) (by decide) rfl (fun ls hl => ?_)
                  refine lv_iinc (v := nI (k + 1 + t + 1)) (lv' := [(3, .int (nI (k + 1 + t + 1))), (1, .int (nI ((bpO M cn k + cntB (fun j => baO M k (k + 1 + j)) t) + 1))), (4, .int (nI (pr k (k + 1 + t)))), (2, .int (nI k)), (0, .ref (xa x 0))]) hx hb dX2_countBarePairs_54 hl (k := 2) rfl (nI_add (k + 1 + t) 1) (by decide) rfl (fun ls hl => ?_)
                  refine lv_goto (tgt := 16) hx hb dX2_countBarePairs_57 (by decide) ?_
                  exact ih_16 (t + 1) (by omega) (by omega)  _ _ hP hV ls (lv_sub hl [0, 3, 1, 4] (show ([(3, .int (nI (k + 1 + t + 1))), (2, .int (nI k)), (1, .int (nI ((bpO M cn k + cntB (fun j => baO M k (k + 1 + j)) t) + 1))), (0, .ref (xa x 0))] : List (Nat × Value)) = [(3, .int (nI (k + 1 + (t + 1)))), (2, .int (nI k)), (1, .int (nI (bpO M cn k + cntB (fun j => baO M k (k + 1 + j)) (t + 1)))), (0, .ref (xa x 0))] from by have hv : (fun j => baO M k (k + 1 + j)) t = true := (by simp [baO, c_1, c_2, c_3, c_4]); rw [cntB_t (f := (fun j => baO M k (k + 1 + j))) (t := t) hv]; try rfl))
        exact lp_16 ((cn - (k + 1)) - (0) + 1) (0) (by omega) (by omega)  _ _ hP hV ls (lv_sub hl [0, 1, 2, 3] (show ([(3, .int (nI (k + 1))), (2, .int (nI k)), (1, .int (nI (bpO M cn k))), (0, .ref (xa x 0))] : List (Nat × Value)) = [(3, .int (nI (k + 1))), (2, .int (nI k)), (1, .int (nI (bpO M cn k + cntB (fun j => baO M k (k + 1 + j)) 0))), (0, .ref (xa x 0))] from by rfl))
  exact lp_4 (cn - (0) + 1) (0) (by omega) (by omega)  _ _ hP hV ls (lv_sub hl [0, 1, 2] (show ([(2, .int 0), (1, .int 0), (0, .ref (xa x 0))] : List (Nat × Value)) = [(2, .int 0), (1, .int (nI (bpO M cn 0))), (0, .ref (xa x 0))] from by rfl))
set_option maxHeartbeats 4000000 in
set_option maxRecDepth 100000 in
theorem c_X2_liesOnLifted (l : Launch) (x : Cx) (M : Nat → Nat → Int32) (cn gn dn : Nat) (pn : Nat → Nat) (L : Int64) (b a q : Nat) (hO : OkO M cn gn dn pn) (hb8 : b < cn) (ha : a < cn) (hq : q < pn a) : Met l yX2_liesOnLifted wsX2_liesOnLifted ({ frames := 4, cells := 0, slots := 0, locals := 92 }) (gP x M [.ref (xa x 0), .long L, .int (nI b), .int (nI a), .int (nI q)]) (gQ x (some (.int (bI (loO2 M pn L b a q)))) M) 0 0 (gF x) := by
  refine g_met (cc := cX2_liesOnLifted) (maxL := 7) (ret := some .boolean) (by decide) rfl (Nat.le_of_ble_eq_true rfl) ?_
  intro p e s m below meth c hx hb hr hml hts hown hlk hS hZ hP hV ls hl
  have hl : lv_has ls 7 [(0, .ref (xa x 0)), (1, .long L), (3, .int (nI b)), (4, .int (nI a)), (5, .int (nI q))] := hl
  have hw_f16 := hts (.fieldLink RX2 16 "CableOffice" "routes" "[LCableOffice$Route;") (by decide +kernel)
  have hinX2 : ∀ w ∈ wsX20, w ∈ wsX2_liesOnLifted := by decide +kernel
  have hw_iX1 := hts (.initialized RX1) (by decide +kernel)
  have hw_imX1_pieces := hts (.instanceMethod yX1_pieces) (by decide +kernel)
  have hw_seX1_pieces := hts (.selects RX1 yX1_pieces yX1_pieces) (by decide +kernel)
  have hw_imX1_pieceCrosses := hts (.instanceMethod yX1_pieceCrosses) (by decide +kernel)
  have hw_seX1_pieceCrosses := hts (.selects RX1 yX1_pieceCrosses yX1_pieceCrosses) (by decide +kernel)
  have hc8 := hO.c8
  have hg5 := hO.g5
  have hd8 := hO.d8
  have h7b := hO.p7 hb8
  have h7a := hO.p7 ha
  refine lv_iconst (v := 0) hx hb dX2_liesOnLifted_0 (by decide) ?_
  refine lv_istore (lv' := [(6, .int 0), (0, .ref (xa x 0)), (1, .long L), (3, .int (nI b)), (4, .int (nI a)), (5, .int (nI q))]) hx hb dX2_liesOnLifted_1 hl (by decide) rfl (fun ls hl => ?_)
  have lp_3 : ∀ (nn k : Nat), (pn b) - k < nn → k ≤ (pn b) → anyB (fun k => inL L (8 * b + k) && crO (rX M b) (rY M b) k (rX M a) (rY M a) q) k = false → ∀ (H : Heap) (locs : List Loc), va_P (xD x) vwCl (wAll x M) H → va_S (gF x) s.heap H locs → ∀ ls : Array Slot, lv_has ls 7 [(6, .int (nI k)), (0, .ref (xa x 0)), (1, .long L), (3, .int (nI b)), (4, .int (nI a)), (5, .int (nI q))] → W p l e ({ frames := 4, cells := 0, slots := 0, locals := 92 }) s m ([.ref (xa x 0), .long L, .int (nI b), .int (nI a), .int (nI q)] : List Value).toArray below meth c H locs 0 0 (MQ below (gQ x (some (.int (bI (loO2 M pn L b a q)))) M) ([.ref (xa x 0), .long L, .int (nI b), .int (nI a), .int (nI q)] : List Value).toArray s 0 0 (gF x)) (F0 m 3 ls []) := by
    intro nn
    induction nn with
    | zero => intro k hz; exact absurd hz (Nat.not_lt_zero _)
    | succ nn ih_3 =>
      intro k hf_3 hk_3 hany H locs hP hV ls hl
      refine lv_iload hx hb dX2_liesOnLifted_3 (lv_at hl 0 rfl) ?_
      refine lv_aload_n hx hb dX2_liesOnLifted_5 rfl (lv_at hl 1 rfl) ?_
      refine g_get (C := RX2) (T := TX2) (N := 9) (v := .ref (xa x 1)) hx hb hts hinX2 hown hS hP (id := 0) (by decide) rfl rfl 1 (by decide) hw_f16 rfl dX2_liesOnLifted_6 ?_
      refine lv_iload_n hx hb dX2_liesOnLifted_9 rfl (lv_at hl 3 rfl) ?_
      refine g_aaldR (j := b) hx hb hS hP rfl (by omega) dX2_liesOnLifted_10 ?_
      refine g_call1 (va_runVN (As := []) (rest := [.int (nI k)]) ⟨hx, hb, hml, hown, hts⟩ (c_X1_pieces l x M b (pn b) (by omega) (hO.p (by omega))) ⟨va_cnB (host := RX2) 0 hts gX2_liesOnLifted_X1_pieces_n200 rfl rfl rfl (hS.2.2.2.2.1 _ (by decide +kernel)) hw_iX1 (by decide +kernel) ⟨Nat.le_of_ble_eq_true rfl, Nat.le_of_ble_eq_true rfl⟩, hw_imX1_pieces, hw_seX1_pieces⟩ (g_preV hS hZ hP hV [] (id := 11 + 3 * b) (by omega) (sh_r x _ (by omega)) rfl) rfl rfl hl.1 rfl (lv_room (Nat.le_of_ble_eq_true rfl)) dX2_liesOnLifted_11 ⟨Nat.le_of_ble_eq_true rfl, Nat.le_of_ble_eq_true rfl⟩) hV (fun H locs hP hV => ?_)
      refine h_icmp_ge_n (a := k) (b := pn b) (tgt := 58) hx hb (by omega) (by omega) dX2_liesOnLifted_14 (by decide) (fun c_1 => ?_) (fun c_1 => ?_)
      · -- taken
        refine lv_iconst (v := 0) hx hb dX2_liesOnLifted_58 (by decide) ?_
        exact g_zret hx hb hr hlk hS hZ hP hV (Nat.le_of_ble_eq_true rfl) (Nat.le_of_ble_eq_true rfl) dX2_liesOnLifted_59 (by decide) (by have h9 : loO2 M pn L b a q = false := (by rw [show k = pn b by omega] at hany; exact hany); rw [h9]; rfl) (by rfl)
      · -- on
        refine lv_lload_n hx hb dX2_liesOnLifted_17 rfl (lv_at hl 2 rfl) ?_
        refine lv_iload_n hx hb dX2_liesOnLifted_18 rfl (lv_at hl 3 rfl) ?_
        refine lv_iload hx hb dX2_liesOnLifted_19 (lv_at hl 0 rfl) ?_
        refine g_call1 (va_runS (As := [.long L, .int (nI b), .int (nI k)]) (rest := []) ⟨hx, hb, hml, hown, hts⟩ (c_X2_isIn l x M L b k) (va_cwS 3 hts gX2_liesOnLifted_X2_isIn rfl rfl rfl (by decide +kernel) ⟨Nat.le_of_ble_eq_true rfl, Nat.le_of_ble_eq_true rfl⟩) (g_preS hS hZ hP hV [.long L, .int (nI b), .int (nI k)]) rfl rfl hl.1 rfl (lv_room (Nat.le_of_ble_eq_true rfl)) dX2_liesOnLifted_21 ⟨Nat.le_of_ble_eq_true rfl, Nat.le_of_ble_eq_true rfl⟩) hV (fun H locs hP hV => ?_)
        refine h_if_eq_b (tgt := 52) hx hb dX2_liesOnLifted_24 (by decide) (fun c_2 => ?_) (fun c_2 => ?_)
        · -- taken
          refine lv_iinc (v := nI (k + 1)) (lv' := [(6, .int (nI (k + 1))), (0, .ref (xa x 0)), (1, .long L), (3, .int (nI b)), (4, .int (nI a)), (5, .int (nI q))]) hx hb dX2_liesOnLifted_52 hl (k := 0) rfl (nI_add (k) 1) (by decide) rfl (fun ls hl => ?_)
          refine lv_goto (tgt := 3) hx hb dX2_liesOnLifted_55 (by decide) ?_
          exact ih_3 (k + 1) (by omega) (by omega) (by exact anyB_f hany (by simp [rX, rY, c_1, c_2])) _ _ hP hV ls (lv_sub hl [0, 1, 2, 3, 4, 5] rfl)
        · -- on
          refine lv_aload_n hx hb dX2_liesOnLifted_27 rfl (lv_at hl 1 rfl) ?_
          refine g_get (C := RX2) (T := TX2) (N := 9) (v := .ref (xa x 1)) hx hb hts hinX2 hown hS hP (id := 0) (by decide) rfl rfl 1 (by decide) hw_f16 rfl dX2_liesOnLifted_28 ?_
          refine lv_iload_n hx hb dX2_liesOnLifted_31 rfl (lv_at hl 3 rfl) ?_
          refine g_aaldR (j := b) hx hb hS hP rfl (by omega) dX2_liesOnLifted_32 ?_
          refine lv_iload hx hb dX2_liesOnLifted_33 (lv_at hl 0 rfl) ?_
          refine lv_aload_n hx hb dX2_liesOnLifted_35 rfl (lv_at hl 1 rfl) ?_
          refine g_get (C := RX2) (T := TX2) (N := 9) (v := .ref (xa x 1)) hx hb hts hinX2 hown hS hP (id := 0) (by decide) rfl rfl 1 (by decide) hw_f16 rfl dX2_liesOnLifted_36 ?_
          refine lv_iload hx hb dX2_liesOnLifted_39 (lv_at hl 4 rfl) ?_
          refine g_aaldR (j := a) hx hb hS hP rfl (by omega) dX2_liesOnLifted_41 ?_
          refine lv_iload hx hb dX2_liesOnLifted_42 (lv_at hl 5 rfl) ?_
          refine g_call1 (va_runVN (As := [.int (nI k), .ref (xa x (11 + 3 * a)), .int (nI q)]) (rest := []) ⟨hx, hb, hml, hown, hts⟩ (c_X1_pieceCrosses l x M b k a q (by omega) (by omega) (by omega) (by omega)) ⟨va_cnB (host := RX2) 3 hts gX2_liesOnLifted_X1_pieceCrosses_n215 rfl rfl rfl (hS.2.2.2.2.1 _ (by decide +kernel)) hw_iX1 (by decide +kernel) ⟨Nat.le_of_ble_eq_true rfl, Nat.le_of_ble_eq_true rfl⟩, hw_imX1_pieceCrosses, hw_seX1_pieceCrosses⟩ (g_preV hS hZ hP hV [.int (nI k), .ref (xa x (11 + 3 * a)), .int (nI q)] (id := 11 + 3 * b) (by omega) (sh_r x _ (by omega)) rfl) rfl rfl hl.1 rfl (lv_room (Nat.le_of_ble_eq_true rfl)) dX2_liesOnLifted_44 ⟨Nat.le_of_ble_eq_true rfl, Nat.le_of_ble_eq_true rfl⟩) hV (fun H locs hP hV => ?_)
          refine h_if_eq_b (tgt := 52) hx hb dX2_liesOnLifted_47 (by decide) (fun c_3 => ?_) (fun c_3 => ?_)
          · -- taken
            refine lv_iinc (v := nI (k + 1)) (lv' := [(6, .int (nI (k + 1))), (0, .ref (xa x 0)), (1, .long L), (3, .int (nI b)), (4, .int (nI a)), (5, .int (nI q))]) hx hb dX2_liesOnLifted_52 hl (k := 0) rfl (nI_add (k) 1) (by decide) rfl (fun ls hl => ?_)
            refine lv_goto (tgt := 3) hx hb dX2_liesOnLifted_55 (by decide) ?_
            exact ih_3 (k + 1) (by omega) (by omega) (by exact anyB_f hany (by simp [rX, rY, c_1, c_2, c_3])) _ _ hP hV ls (lv_sub hl [0, 1, 2, 3, 4, 5] rfl)
          · -- on
            refine lv_iconst (v := 1) hx hb dX2_liesOnLifted_50 (by decide) ?_
            exact g_zret hx hb hr hlk hS hZ hP hV (Nat.le_of_ble_eq_true rfl) (Nat.le_of_ble_eq_true rfl) dX2_liesOnLifted_51 (by decide) (by have h9 : loO2 M pn L b a q = true := anyB_of (k := k) (by omega) (by simp [rX, rY, c_1, c_2, c_3]); rw [h9]; rfl) (by rfl)
  exact lp_3 ((pn b) - (0) + 1) (0) (by omega) (by omega) (by rfl) _ _ hP hV ls (lv_sub hl [0, 1, 2, 3, 4, 5] rfl)
set_option maxHeartbeats 4000000 in
set_option maxRecDepth 100000 in
theorem c_X2_lyingOn (l : Launch) (x : Cx) (M : Nat → Nat → Int32) (cn gn dn : Nat) (pn : Nat → Nat) (L : Int64) (b a : Nat) (hO : OkO M cn gn dn pn) (hb8 : b < cn) (ha : a < cn) : Met l yX2_lyingOn wsX2_lyingOn ({ frames := 5, cells := 0, slots := 0, locals := 118 }) (gP x M [.ref (xa x 0), .long L, .int (nI b), .int (nI a)]) (gQ x (some (.long (lyO M pn L b a (pn a)))) M) 0 0 (gF x) := by
  refine g_met (cc := cX2_lyingOn) (maxL := 8) (ret := some .long) (by decide) rfl (Nat.le_of_ble_eq_true rfl) ?_
  intro p e s m below meth c hx hb hr hml hts hown hlk hS hZ hP hV ls hl
  have hl : lv_has ls 8 [(0, .ref (xa x 0)), (1, .long L), (3, .int (nI b)), (4, .int (nI a))] := hl
  have hw_f16 := hts (.fieldLink RX2 16 "CableOffice" "routes" "[LCableOffice$Route;") (by decide +kernel)
  have hinX2 : ∀ w ∈ wsX20, w ∈ wsX2_lyingOn := by decide +kernel
  have hw_iX1 := hts (.initialized RX1) (by decide +kernel)
  have hw_imX1_pieces := hts (.instanceMethod yX1_pieces) (by decide +kernel)
  have hw_seX1_pieces := hts (.selects RX1 yX1_pieces yX1_pieces) (by decide +kernel)
  have hc8 := hO.c8
  have hg5 := hO.g5
  have hd8 := hO.d8
  have h7b := hO.p7 hb8
  have h7a := hO.p7 ha
  refine lv_lconst (v := 0) hx hb dX2_lyingOn_0 (by decide) ?_
  refine lv_lstore (lv' := [(5, .long 0), (0, .ref (xa x 0)), (1, .long L), (3, .int (nI b)), (4, .int (nI a))]) hx hb dX2_lyingOn_1 hl (by decide) rfl (fun ls hl => ?_)
  refine lv_iconst (v := 0) hx hb dX2_lyingOn_3 (by decide) ?_
  refine lv_istore (lv' := [(7, .int 0), (5, .long 0), (0, .ref (xa x 0)), (1, .long L), (3, .int (nI b)), (4, .int (nI a))]) hx hb dX2_lyingOn_4 hl (by decide) rfl (fun ls hl => ?_)
  have lp_6 : ∀ (nn q : Nat), (pn a) - q < nn → q ≤ (pn a) → ∀ (H : Heap) (locs : List Loc), va_P (xD x) vwCl (wAll x M) H → va_S (gF x) s.heap H locs → ∀ ls : Array Slot, lv_has ls 8 [(7, .int (nI q)), (5, .long (lyO M pn L b a q)), (0, .ref (xa x 0)), (1, .long L), (3, .int (nI b)), (4, .int (nI a))] → W p l e ({ frames := 5, cells := 0, slots := 0, locals := 118 }) s m ([.ref (xa x 0), .long L, .int (nI b), .int (nI a)] : List Value).toArray below meth c H locs 0 0 (MQ below (gQ x (some (.long (lyO M pn L b a (pn a)))) M) ([.ref (xa x 0), .long L, .int (nI b), .int (nI a)] : List Value).toArray s 0 0 (gF x)) (F0 m 6 ls []) := by
    intro nn
    induction nn with
    | zero => intro q hz; exact absurd hz (Nat.not_lt_zero _)
    | succ nn ih_6 =>
      intro q hf_6 hk_6  H locs hP hV ls hl
      refine lv_iload hx hb dX2_lyingOn_6 (lv_at hl 0 rfl) ?_
      refine lv_aload_n hx hb dX2_lyingOn_8 rfl (lv_at hl 2 rfl) ?_
      refine g_get (C := RX2) (T := TX2) (N := 9) (v := .ref (xa x 1)) hx hb hts hinX2 hown hS hP (id := 0) (by decide) rfl rfl 1 (by decide) hw_f16 rfl dX2_lyingOn_9 ?_
      refine lv_iload hx hb dX2_lyingOn_12 (lv_at hl 5 rfl) ?_
      refine g_aaldR (j := a) hx hb hS hP rfl (by omega) dX2_lyingOn_14 ?_
      refine g_call1 (va_runVN (As := []) (rest := [.int (nI q)]) ⟨hx, hb, hml, hown, hts⟩ (c_X1_pieces l x M a (pn a) (by omega) (hO.p (by omega))) ⟨va_cnB (host := RX2) 0 hts gX2_lyingOn_X1_pieces_n200 rfl rfl rfl (hS.2.2.2.2.1 _ (by decide +kernel)) hw_iX1 (by decide +kernel) ⟨Nat.le_of_ble_eq_true rfl, Nat.le_of_ble_eq_true rfl⟩, hw_imX1_pieces, hw_seX1_pieces⟩ (g_preV hS hZ hP hV [] (id := 11 + 3 * a) (by omega) (sh_r x _ (by omega)) rfl) rfl rfl hl.1 rfl (lv_room (Nat.le_of_ble_eq_true rfl)) dX2_lyingOn_15 ⟨Nat.le_of_ble_eq_true rfl, Nat.le_of_ble_eq_true rfl⟩) hV (fun H locs hP hV => ?_)
      refine h_icmp_ge_n (a := q) (b := pn a) (tgt := 52) hx hb (by omega) (by omega) dX2_lyingOn_18 (by decide) (fun c_1 => ?_) (fun c_1 => ?_)
      · -- taken
        refine lv_lload hx hb dX2_lyingOn_52 (lv_at hl 1 rfl) ?_
        exact g_lret hx hb hr hlk hS hZ hP hV (Nat.le_of_ble_eq_true rfl) (Nat.le_of_ble_eq_true rfl) dX2_lyingOn_54 (by rw [show q = pn a by omega]) (by rfl)
      · -- on
        refine lv_aload_n hx hb dX2_lyingOn_21 rfl (lv_at hl 2 rfl) ?_
        refine lv_lload_n hx hb dX2_lyingOn_22 rfl (lv_at hl 3 rfl) ?_
        refine lv_iload_n hx hb dX2_lyingOn_23 rfl (lv_at hl 4 rfl) ?_
        refine lv_iload hx hb dX2_lyingOn_24 (lv_at hl 5 rfl) ?_
        refine lv_iload hx hb dX2_lyingOn_26 (lv_at hl 0 rfl) ?_
        refine g_call1 (va_runV (As := [.long L, .int (nI b), .int (nI a), .int (nI q)]) (rest := []) ⟨hx, hb, hml, hown, hts⟩ (c_X2_liesOnLifted l x M cn gn dn pn L b a q hO (by omega) (by omega) (by omega)) (cwV 4 hts gX2_lyingOn_X2_liesOnLifted rfl rfl rfl (by decide +kernel) ⟨Nat.le_of_ble_eq_true rfl, Nat.le_of_ble_eq_true rfl⟩) (g_preV hS hZ hP hV [.long L, .int (nI b), .int (nI a), .int (nI q)] (id := 0) (by decide) rfl rfl) rfl rfl hl.1 rfl (lv_room (Nat.le_of_ble_eq_true rfl)) dX2_lyingOn_28 ⟨Nat.le_of_ble_eq_true rfl, Nat.le_of_ble_eq_true rfl⟩) hV (fun H locs hP hV => ?_)
        refine h_if_eq_b (tgt := 46) hx hb dX2_lyingOn_31 (by decide) (fun c_2 => ?_) (fun c_2 => ?_)
        · -- taken
          refine lv_iinc (v := nI (q + 1)) (lv' := [(7, .int (nI (q + 1))), (5, .long (lyO M pn L b a q)), (0, .ref (xa x 0)), (1, .long L), (3, .int (nI b)), (4, .int (nI a))]) hx hb dX2_lyingOn_46 hl (k := 0) rfl (nI_add (q) 1) (by decide) rfl (fun ls hl => ?_)
          refine lv_goto (tgt := 6) hx hb dX2_lyingOn_49 (by decide) ?_
          exact ih_6 (q + 1) (by omega) (by omega)  _ _ hP hV ls (lv_sub hl [0, 1, 2, 3, 4, 5] (show ([(7, .int (nI (q + 1))), (5, .long (lyO M pn L b a q)), (0, .ref (xa x 0)), (1, .long L), (3, .int (nI b)), (4, .int (nI a))] : List (Nat × Value)) = [(7, .int (nI (q + 1))), (5, .long (lyO M pn L b a (q + 1))), (0, .ref (xa x 0)), (1, .long L), (3, .int (nI b)), (4, .int (nI a))] from by simp [lyO, c_1, c_2]))
        · -- on
          refine lv_lload hx hb dX2_lyingOn_34 (lv_at hl 1 rfl) ?_
          refine lv_iload hx hb dX2_lyingOn_36 (lv_at hl 5 rfl) ?_
          refine lv_iload hx hb dX2_lyingOn_38 (lv_at hl 0 rfl) ?_
          refine g_call1 (va_runS (As := [.int (nI a), .int (nI q)]) (rest := [.long (lyO M pn L b a q)]) ⟨hx, hb, hml, hown, hts⟩ (c_X2_bitOf l x M a q) (va_cwS 2 hts gX2_lyingOn_X2_bitOf rfl rfl rfl (by decide +kernel) ⟨Nat.le_of_ble_eq_true rfl, Nat.le_of_ble_eq_true rfl⟩) (g_preS hS hZ hP hV [.int (nI a), .int (nI q)]) rfl rfl hl.1 rfl (lv_room (Nat.le_of_ble_eq_true rfl)) dX2_lyingOn_40 ⟨Nat.le_of_ble_eq_true rfl, Nat.le_of_ble_eq_true rfl⟩) hV (fun H locs hP hV => ?_)
          refine lv_lor hx hb dX2_lyingOn_43 ?_
          refine lv_lstore (lv' := [(5, .long ((lyO M pn L b a q) ||| (bitL (8 * a + q)))), (7, .int (nI q)), (0, .ref (xa x 0)), (1, .long L), (3, .int (nI b)), (4, .int (nI a))]) hx hb dX2_lyingOn_44 hl (by decide) rfl (fun ls hl => ?_)
          refine lv_iinc (v := nI (q + 1)) (lv' := [(7, .int (nI (q + 1))), (5, .long ((lyO M pn L b a q) ||| (bitL (8 * a + q)))), (0, .ref (xa x 0)), (1, .long L), (3, .int (nI b)), (4, .int (nI a))]) hx hb dX2_lyingOn_46 hl (k := 1) rfl (nI_add (q) 1) (by decide) rfl (fun ls hl => ?_)
          refine lv_goto (tgt := 6) hx hb dX2_lyingOn_49 (by decide) ?_
          exact ih_6 (q + 1) (by omega) (by omega)  _ _ hP hV ls (lv_sub hl [0, 1, 2, 3, 4, 5] (show ([(7, .int (nI (q + 1))), (5, .long ((lyO M pn L b a q) ||| (bitL (8 * a + q)))), (0, .ref (xa x 0)), (1, .long L), (3, .int (nI b)), (4, .int (nI a))] : List (Nat × Value)) = [(7, .int (nI (q + 1))), (5, .long (lyO M pn L b a (q + 1))), (0, .ref (xa x 0)), (1, .long L), (3, .int (nI b)), (4, .int (nI a))] from by simp [lyO, c_1, c_2]))
  exact lp_6 ((pn a) - (0) + 1) (0) (by omega) (by omega)  _ _ hP hV ls (lv_sub hl [0, 1, 2, 3, 4, 5] (show ([(7, .int 0), (5, .long 0), (0, .ref (xa x 0)), (1, .long L), (3, .int (nI b)), (4, .int (nI a))] : List (Nat × Value)) = [(7, .int 0), (5, .long (lyO M pn L b a 0)), (0, .ref (xa x 0)), (1, .long L), (3, .int (nI b)), (4, .int (nI a))] from by rfl))
set_option maxHeartbeats 4000000 in
set_option maxRecDepth 100000 in
theorem c_X2_liftedWith (l : Launch) (x : Cx) (M : Nat → Nat → Int32) (cn gn dn : Nat) (pn : Nat → Nat) (cb q : Nat) (hO : OkO M cn gn dn pn) (hcb : cb < cn) : Met l yX2_liftedWith wsX2_liftedWith ({ frames := 6, cells := 0, slots := 0, locals := 145 }) (gP x M [.ref (xa x 0), .int (nI cb), .int (nI q)]) (gQ x (some (.long (lwA M pn cb q (cn - (cb + 1))))) M) 0 0 (gF x) := by
  refine g_met (cc := cX2_liftedWith) (maxL := 7) (ret := some .long) (by decide) rfl (Nat.le_of_ble_eq_true rfl) ?_
  intro p e s m below meth c hx hb hr hml hts hown hlk hS hZ hP hV ls hl
  have hl : lv_has ls 7 [(0, .ref (xa x 0)), (1, .int (nI cb)), (2, .int (nI q))] := hl
  have hw_f20 := hts (.fieldLink RX2 20 "CableOffice" "cableCount" "I") (by decide +kernel)
  have hinX2 : ∀ w ∈ wsX20, w ∈ wsX2_liftedWith := by decide +kernel
  have hc8 := hO.c8
  have hg5 := hO.g5
  have hd8 := hO.d8
  refine lv_iload_n hx hb dX2_liftedWith_0 rfl (lv_at hl 1 rfl) ?_
  refine lv_iload_n hx hb dX2_liftedWith_1 rfl (lv_at hl 2 rfl) ?_
  refine g_call1 (va_runS (As := [.int (nI cb), .int (nI q)]) (rest := []) ⟨hx, hb, hml, hown, hts⟩ (c_X2_bitOf l x M cb q) (va_cwS 2 hts gX2_liftedWith_X2_bitOf rfl rfl rfl (by decide +kernel) ⟨Nat.le_of_ble_eq_true rfl, Nat.le_of_ble_eq_true rfl⟩) (g_preS hS hZ hP hV [.int (nI cb), .int (nI q)]) rfl rfl hl.1 rfl (lv_room (Nat.le_of_ble_eq_true rfl)) dX2_liftedWith_2 ⟨Nat.le_of_ble_eq_true rfl, Nat.le_of_ble_eq_true rfl⟩) hV (fun H locs hP hV => ?_)
  refine lv_lstore_n (lv' := [(3, .long (bitL (8 * cb + q))), (0, .ref (xa x 0)), (1, .int (nI cb)), (2, .int (nI q))]) hx hb dX2_liftedWith_5 rfl hl (by decide) rfl (fun ls hl => ?_)
  refine lv_iload_n hx hb dX2_liftedWith_6 rfl (lv_at hl 2 rfl) ?_
  refine lv_iconst (v := 1) hx hb dX2_liftedWith_7 (by decide) ?_
  refine h_iadd (v := nI (cb + 1)) hx hb dX2_liftedWith_8 (nI_add (cb) (1)) ?_
  refine lv_istore (lv' := [(5, .int (nI (cb + 1))), (3, .long (bitL (8 * cb + q))), (0, .ref (xa x 0)), (1, .int (nI cb)), (2, .int (nI q))]) hx hb dX2_liftedWith_9 hl (by decide) rfl (fun ls hl => ?_)
  have lp_11 : ∀ (nn t : Nat), (cn - (cb + 1)) - t < nn → t ≤ (cn - (cb + 1)) → ∀ (H : Heap) (locs : List Loc), va_P (xD x) vwCl (wAll x M) H → va_S (gF x) s.heap H locs → ∀ ls : Array Slot, lv_has ls 7 [(5, .int (nI (cb + 1 + t))), (3, .long (lwA M pn cb q t)), (0, .ref (xa x 0)), (1, .int (nI cb))] → W p l e ({ frames := 6, cells := 0, slots := 0, locals := 145 }) s m ([.ref (xa x 0), .int (nI cb), .int (nI q)] : List Value).toArray below meth c H locs 0 0 (MQ below (gQ x (some (.long (lwA M pn cb q (cn - (cb + 1))))) M) ([.ref (xa x 0), .int (nI cb), .int (nI q)] : List Value).toArray s 0 0 (gF x)) (F0 m 11 ls []) := by
    intro nn
    induction nn with
    | zero => intro t hz; exact absurd hz (Nat.not_lt_zero _)
    | succ nn ih_11 =>
      intro t hf_11 hk_11  H locs hP hV ls hl
      refine lv_iload hx hb dX2_liftedWith_11 (lv_at hl 0 rfl) ?_
      refine lv_aload_n hx hb dX2_liftedWith_13 rfl (lv_at hl 2 rfl) ?_
      refine g_get (C := RX2) (T := TX2) (N := 9) (v := .int (nI cn)) hx hb hts hinX2 hown hS hP (id := 0) (by decide) rfl rfl 2 (by decide) hw_f20 (congrArg (fun z => some (Value.int z)) hO.c) dX2_liftedWith_14 ?_
      refine h_icmp_ge_n (a := cb + 1 + t) (b := cn) (tgt := 54) hx hb (by omega) (by omega) dX2_liftedWith_17 (by decide) (fun c_1 => ?_) (fun c_1 => ?_)
      · -- taken
        refine lv_lload_n hx hb dX2_liftedWith_54 rfl (lv_at hl 1 rfl) ?_
        exact g_lret hx hb hr hlk hS hZ hP hV (Nat.le_of_ble_eq_true rfl) (Nat.le_of_ble_eq_true rfl) dX2_liftedWith_55 (by rw [show t = cn - (cb + 1) by omega]) (by rfl)
      · -- on
        refine lv_iload_n hx hb dX2_liftedWith_20 rfl (lv_at hl 3 rfl) ?_
        refine lv_istore (lv' := [(6, .int (nI cb)), (5, .int (nI (cb + 1 + t))), (3, .long (lwA M pn cb q t)), (0, .ref (xa x 0)), (1, .int (nI cb))]) hx hb dX2_liftedWith_21 hl (by decide) rfl (fun ls hl => ?_)
        have lp_23 : ∀ (nn j : Nat), (t + 1) - j < nn → j ≤ (t + 1) → ∀ (H : Heap) (locs : List Loc), va_P (xD x) vwCl (wAll x M) H → va_S (gF x) s.heap H locs → ∀ ls : Array Slot, lv_has ls 7 [(6, .int (nI (cb + j))), (5, .int (nI (cb + 1 + t))), (3, .long (lwB M pn cb (cb + 1 + t) (lwA M pn cb q t) j)), (0, .ref (xa x 0)), (1, .int (nI cb))] → W p l e ({ frames := 6, cells := 0, slots := 0, locals := 145 }) s m ([.ref (xa x 0), .int (nI cb), .int (nI q)] : List Value).toArray below meth c H locs 0 0 (MQ below (gQ x (some (.long (lwA M pn cb q (cn - (cb + 1))))) M) ([.ref (xa x 0), .int (nI cb), .int (nI q)] : List Value).toArray s 0 0 (gF x)) (F0 m 23 ls []) := by
          intro nn
          induction nn with
          | zero => intro j hz; exact absurd hz (Nat.not_lt_zero _)
          | succ nn ih_23 =>
            intro j hf_23 hk_23  H locs hP hV ls hl
            refine lv_iload hx hb dX2_liftedWith_23 (lv_at hl 0 rfl) ?_
            refine lv_iload hx hb dX2_liftedWith_25 (lv_at hl 1 rfl) ?_
            refine h_icmp_ge_n (a := cb + j) (b := cb + 1 + t) (tgt := 48) hx hb (by omega) (by omega) dX2_liftedWith_27 (by decide) (fun c_2 => ?_) (fun c_2 => ?_)
            · -- taken
              refine lv_iinc (v := nI (cb + 1 + t + 1)) (lv' := [(5, .int (nI (cb + 1 + t + 1))), (6, .int (nI (cb + j))), (3, .long (lwB M pn cb (cb + 1 + t) (lwA M pn cb q t) j)), (0, .ref (xa x 0)), (1, .int (nI cb))]) hx hb dX2_liftedWith_48 hl (k := 1) rfl (nI_add (cb + 1 + t) 1) (by decide) rfl (fun ls hl => ?_)
              refine lv_goto (tgt := 11) hx hb dX2_liftedWith_51 (by decide) ?_
              exact ih_11 (t + 1) (by omega) (by omega)  _ _ hP hV ls (lv_sub hl [0, 2, 3, 4] (show ([(5, .int (nI (cb + 1 + t + 1))), (3, .long (lwB M pn cb (cb + 1 + t) (lwA M pn cb q t) j)), (0, .ref (xa x 0)), (1, .int (nI cb))] : List (Nat × Value)) = [(5, .int (nI (cb + 1 + (t + 1)))), (3, .long (lwA M pn cb q (t + 1))), (0, .ref (xa x 0)), (1, .int (nI cb))] from by rw [show j = t + 1 by omega]; rfl))
            · -- on
              refine lv_lload_n hx hb dX2_liftedWith_30 rfl (lv_at hl 2 rfl) ?_
              refine lv_aload_n hx hb dX2_liftedWith_31 rfl (lv_at hl 3 rfl) ?_
              refine lv_lload_n hx hb dX2_liftedWith_32 rfl (lv_at hl 2 rfl) ?_
              refine lv_iload hx hb dX2_liftedWith_33 (lv_at hl 0 rfl) ?_
              refine lv_iload hx hb dX2_liftedWith_35 (lv_at hl 1 rfl) ?_
              refine g_call1 (va_runV (As := [.long (lwB M pn cb (cb + 1 + t) (lwA M pn cb q t) j), .int (nI (cb + j)), .int (nI (cb + 1 + t))]) (rest := [.long (lwB M pn cb (cb + 1 + t) (lwA M pn cb q t) j)]) ⟨hx, hb, hml, hown, hts⟩ (c_X2_lyingOn l x M cn gn dn pn (lwB M pn cb (cb + 1 + t) (lwA M pn cb q t) j) (cb + j) (cb + 1 + t) hO (by omega) (by omega)) (cwV 3 hts gX2_liftedWith_X2_lyingOn rfl rfl rfl (by decide +kernel) ⟨Nat.le_of_ble_eq_true rfl, Nat.le_of_ble_eq_true rfl⟩) (g_preV hS hZ hP hV [.long (lwB M pn cb (cb + 1 + t) (lwA M pn cb q t) j), .int (nI (cb + j)), .int (nI (cb + 1 + t))] (id := 0) (by decide) rfl rfl) rfl rfl hl.1 rfl (lv_room (Nat.le_of_ble_eq_true rfl)) dX2_liftedWith_37 ⟨Nat.le_of_ble_eq_true rfl, Nat.le_of_ble_eq_true rfl⟩) hV (fun H locs hP hV => ?_)
              refine lv_lor hx hb dX2_liftedWith_40 ?_
              refine lv_lstore_n (lv' := [(3, .long ((lwB M pn cb (cb + 1 + t) (lwA M pn cb q t) j) ||| (lyO M pn (lwB M pn cb (cb + 1 + t) (lwA M pn cb q t) j) (cb + j) (cb + 1 + t) (pn (cb + 1 + t))))), (6, .int (nI (cb + j))), (5, .int (nI (cb + 1 + t))), (0, .ref (xa x 0)), (1, .int (nI cb))]) hx hb dX2_liftedWith_41 rfl hl (by decide) rfl (fun ls hl => ?_)
              refine lv_iinc (v := nI (cb + j + 1)) (lv' := [(6, .int (nI (cb + j + 1))), (3, .long ((lwB M pn cb (cb + 1 + t) (lwA M pn cb q t) j) ||| (lyO M pn (lwB M pn cb (cb + 1 + t) (lwA M pn cb q t) j) (cb + j) (cb + 1 + t) (pn (cb + 1 + t))))), (5, .int (nI (cb + 1 + t))), (0, .ref (xa x 0)), (1, .int (nI cb))]) hx hb dX2_liftedWith_42 hl (k := 1) rfl (nI_add (cb + j) 1) (by decide) rfl (fun ls hl => ?_)
              refine lv_goto (tgt := 23) hx hb dX2_liftedWith_45 (by decide) ?_
              exact ih_23 (j + 1) (by omega) (by omega)  _ _ hP hV ls (lv_sub hl [0, 2, 1, 3, 4] (show ([(6, .int (nI (cb + j + 1))), (5, .int (nI (cb + 1 + t))), (3, .long ((lwB M pn cb (cb + 1 + t) (lwA M pn cb q t) j) ||| (lyO M pn (lwB M pn cb (cb + 1 + t) (lwA M pn cb q t) j) (cb + j) (cb + 1 + t) (pn (cb + 1 + t))))), (0, .ref (xa x 0)), (1, .int (nI cb))] : List (Nat × Value)) = [(6, .int (nI (cb + (j + 1)))), (5, .int (nI (cb + 1 + t))), (3, .long (lwB M pn cb (cb + 1 + t) (lwA M pn cb q t) (j + 1))), (0, .ref (xa x 0)), (1, .int (nI cb))] from by rfl))
        exact lp_23 ((t + 1) - (0) + 1) (0) (by omega) (by omega)  _ _ hP hV ls (lv_sub hl [0, 1, 2, 3, 4] (show ([(6, .int (nI cb)), (5, .int (nI (cb + 1 + t))), (3, .long (lwA M pn cb q t)), (0, .ref (xa x 0)), (1, .int (nI cb))] : List (Nat × Value)) = [(6, .int (nI cb)), (5, .int (nI (cb + 1 + t))), (3, .long (lwB M pn cb (cb + 1 + t) (lwA M pn cb q t) 0)), (0, .ref (xa x 0)), (1, .int (nI cb))] from by rfl))
  exact lp_11 ((cn - (cb + 1)) - (0) + 1) (0) (by omega) (by omega)  _ _ hP hV ls (lv_sub hl [0, 1, 2, 3] (show ([(5, .int (nI (cb + 1))), (3, .long (bitL (8 * cb + q))), (0, .ref (xa x 0)), (1, .int (nI cb))] : List (Nat × Value)) = [(5, .int (nI (cb + 1))), (3, .long (lwA M pn cb q 0)), (0, .ref (xa x 0)), (1, .int (nI cb))] from by rfl))
set_option maxHeartbeats 4000000 in
set_option maxRecDepth 100000 in
theorem c_X2_isPossible (l : Launch) (x : Cx) (M : Nat → Nat → Int32) (cn gn dn : Nat) (pn : Nat → Nat) (L : Int64) (hO : OkO M cn gn dn pn) : Met l yX2_isPossible wsX2_isPossible ({ frames := 6, cells := 0, slots := 0, locals := 145 }) (gP x M [.ref (xa x 0), .long L]) (gQ x (some (.int (bI (psO M pn L cn)))) M) 0 0 (gF x) := by
  refine g_met (cc := cX2_isPossible) (maxL := 5) (ret := some .boolean) (by decide) rfl (Nat.le_of_ble_eq_true rfl) ?_
  intro p e s m below meth c hx hb hr hml hts hown hlk hS hZ hP hV ls hl
  have hl : lv_has ls 5 [(0, .ref (xa x 0)), (1, .long L)] := hl
  have hw_f20 := hts (.fieldLink RX2 20 "CableOffice" "cableCount" "I") (by decide +kernel)
  have hinX2 : ∀ w ∈ wsX20, w ∈ wsX2_isPossible := by decide +kernel
  have hw_f31 := hts (.fieldLink RX2 31 "CableOffice" "agreed" "[Z") (by decide +kernel)
  have hc8 := hO.c8
  have hg5 := hO.g5
  have hd8 := hO.d8
  refine lv_iconst (v := 0) hx hb dX2_isPossible_0 (by decide) ?_
  refine lv_istore_n (lv' := [(3, .int 0), (0, .ref (xa x 0)), (1, .long L)]) hx hb dX2_isPossible_1 rfl hl (by decide) rfl (fun ls hl => ?_)
  have lp_2 : ∀ (nn k : Nat), cn - k < nn → k ≤ cn → anyB (fun a => anyB (badO M pn L a) a) k = false → ∀ (H : Heap) (locs : List Loc), va_P (xD x) vwCl (wAll x M) H → va_S (gF x) s.heap H locs → ∀ ls : Array Slot, lv_has ls 5 [(3, .int (nI k)), (0, .ref (xa x 0)), (1, .long L)] → W p l e ({ frames := 6, cells := 0, slots := 0, locals := 145 }) s m ([.ref (xa x 0), .long L] : List Value).toArray below meth c H locs 0 0 (MQ below (gQ x (some (.int (bI (psO M pn L cn)))) M) ([.ref (xa x 0), .long L] : List Value).toArray s 0 0 (gF x)) (F0 m 2 ls []) := by
    intro nn
    induction nn with
    | zero => intro k hz; exact absurd hz (Nat.not_lt_zero _)
    | succ nn ih_2 =>
      intro k hf_2 hk_2 hA H locs hP hV ls hl
      refine lv_iload_n hx hb dX2_isPossible_2 rfl (lv_at hl 0 rfl) ?_
      refine lv_aload_n hx hb dX2_isPossible_3 rfl (lv_at hl 1 rfl) ?_
      refine g_get (C := RX2) (T := TX2) (N := 9) (v := .int (nI cn)) hx hb hts hinX2 hown hS hP (id := 0) (by decide) rfl rfl 2 (by decide) hw_f20 (congrArg (fun z => some (Value.int z)) hO.c) dX2_isPossible_4 ?_
      refine h_icmp_ge_n (a := k) (b := cn) (tgt := 60) hx hb (by omega) (by omega) dX2_isPossible_7 (by decide) (fun c_1 => ?_) (fun c_1 => ?_)
      · -- taken
        refine lv_iconst (v := 1) hx hb dX2_isPossible_60 (by decide) ?_
        exact g_zret hx hb hr hlk hS hZ hP hV (Nat.le_of_ble_eq_true rfl) (Nat.le_of_ble_eq_true rfl) dX2_isPossible_61 (by decide) (by have h9 : psO M pn L cn = true := by { have h8 : anyB (fun a => anyB (badO M pn L a) a) cn = false := (by rw [show k = cn by omega] at hA; exact hA); simp [psO, h8] }; rw [h9]; rfl) (by rfl)
      · -- on
        refine lv_iconst (v := 0) hx hb dX2_isPossible_10 (by decide) ?_
        refine lv_istore (lv' := [(4, .int 0), (3, .int (nI k)), (0, .ref (xa x 0)), (1, .long L)]) hx hb dX2_isPossible_11 hl (by decide) rfl (fun ls hl => ?_)
        have lp_13 : ∀ (nn t : Nat), k - t < nn → t ≤ k → anyB (badO M pn L k) t = false → ∀ (H : Heap) (locs : List Loc), va_P (xD x) vwCl (wAll x M) H → va_S (gF x) s.heap H locs → ∀ ls : Array Slot, lv_has ls 5 [(4, .int (nI t)), (3, .int (nI k)), (0, .ref (xa x 0)), (1, .long L)] → W p l e ({ frames := 6, cells := 0, slots := 0, locals := 145 }) s m ([.ref (xa x 0), .long L] : List Value).toArray below meth c H locs 0 0 (MQ below (gQ x (some (.int (bI (psO M pn L cn)))) M) ([.ref (xa x 0), .long L] : List Value).toArray s 0 0 (gF x)) (F0 m 13 ls []) := by
          intro nn
          induction nn with
          | zero => intro t hz; exact absurd hz (Nat.not_lt_zero _)
          | succ nn ih_13 =>
            intro t hf_13 hk_13 hB H locs hP hV ls hl
            refine lv_iload hx hb dX2_isPossible_13 (lv_at hl 0 rfl) ?_
            refine lv_iload_n hx hb dX2_isPossible_15 rfl (lv_at hl 1 rfl) ?_
            refine h_icmp_ge_n (a := t) (b := k) (tgt := 54) hx hb (by omega) (by omega) dX2_isPossible_16 (by decide) (fun c_2 => ?_) (fun c_2 => ?_)
            · -- taken
              refine lv_iinc (v := nI (k + 1)) (lv' := [(3, .int (nI (k + 1))), (4, .int (nI t)), (0, .ref (xa x 0)), (1, .long L)]) hx hb dX2_isPossible_54 hl (k := 1) rfl (nI_add (k) 1) (by decide) rfl (fun ls hl => ?_)
              refine lv_goto (tgt := 2) hx hb dX2_isPossible_57 (by decide) ?_
              exact ih_2 (k + 1) (by omega) (by omega) (by exact anyB_f hA (by rw [show t = k by omega] at hB; exact hB)) _ _ hP hV ls (lv_sub hl [0, 2, 3] rfl)
            · -- on
              have hp64 := pr_lt (show t < 8 by omega) (show k < 8 by omega)
              refine lv_aload_n hx hb dX2_isPossible_19 rfl (lv_at hl 2 rfl) ?_
              refine g_get (C := RX2) (T := TX2) (N := 9) (v := .ref (xa x 4)) hx hb hts hinX2 hown hS hP (id := 0) (by decide) rfl rfl 5 (by decide) hw_f31 rfl dX2_isPossible_20 ?_
              refine lv_iload hx hb dX2_isPossible_23 (lv_at hl 0 rfl) ?_
              refine lv_iload_n hx hb dX2_isPossible_25 rfl (lv_at hl 1 rfl) ?_
              refine g_call1 (va_runS (As := [.int (nI t), .int (nI k)]) (rest := [.ref (xa x 4)]) ⟨hx, hb, hml, hown, hts⟩ (c_X2_pairOf l x M t k (by omega) (by omega)) (va_cwS 2 hts gX2_isPossible_X2_pairOf rfl rfl rfl (by decide +kernel) ⟨Nat.le_of_ble_eq_true rfl, Nat.le_of_ble_eq_true rfl⟩) (g_preS hS hZ hP hV [.int (nI t), .int (nI k)]) rfl rfl hl.1 rfl (lv_room (Nat.le_of_ble_eq_true rfl)) dX2_isPossible_26 ⟨Nat.le_of_ble_eq_true rfl, Nat.le_of_ble_eq_true rfl⟩) hV (fun H locs hP hV => ?_)
              refine g_zald (j := pr t k) hx hb hS hP (id := 4) (by omega) ((fun _ => rfl) _) (by decide) rfl (by omega) dX2_isPossible_29 ?_
              refine lv_if_ne (tgt := 48) hx hb dX2_isPossible_30 (by decide) (fun c_3 => ?_) (fun c_3 => ?_)
              · -- taken
                refine lv_iinc (v := nI (t + 1)) (lv' := [(4, .int (nI (t + 1))), (3, .int (nI k)), (0, .ref (xa x 0)), (1, .long L)]) hx hb dX2_isPossible_48 hl (k := 0) rfl (nI_add (t) 1) (by decide) rfl (fun ls hl => ?_)
                refine lv_goto (tgt := 13) hx hb dX2_isPossible_51 (by decide) ?_
                exact ih_13 (t + 1) (by omega) (by omega) (by exact anyB_f hB (by simp [badO, c_1, c_2, c_3])) _ _ hP hV ls (lv_sub hl [0, 1, 2, 3] rfl)
              · -- on
                refine lv_aload_n hx hb dX2_isPossible_33 rfl (lv_at hl 2 rfl) ?_
                refine lv_lload_n hx hb dX2_isPossible_34 rfl (lv_at hl 3 rfl) ?_
                refine lv_iload hx hb dX2_isPossible_35 (lv_at hl 0 rfl) ?_
                refine lv_iload_n hx hb dX2_isPossible_37 rfl (lv_at hl 1 rfl) ?_
                refine g_call1 (va_runV (As := [.long L, .int (nI t), .int (nI k)]) (rest := []) ⟨hx, hb, hml, hown, hts⟩ (c_X2_lyingOn l x M cn gn dn pn L t k hO (by omega) (by omega)) (cwV 3 hts gX2_isPossible_X2_lyingOn rfl rfl rfl (by decide +kernel) ⟨Nat.le_of_ble_eq_true rfl, Nat.le_of_ble_eq_true rfl⟩) (g_preV hS hZ hP hV [.long L, .int (nI t), .int (nI k)] (id := 0) (by decide) rfl rfl) rfl rfl hl.1 rfl (lv_room (Nat.le_of_ble_eq_true rfl)) dX2_isPossible_38 ⟨Nat.le_of_ble_eq_true rfl, Nat.le_of_ble_eq_true rfl⟩) hV (fun H locs hP hV => ?_)
                refine lv_lconst (v := 0) hx hb dX2_isPossible_41 (by decide) ?_
                refine W.lcmp hx hb dX2_isPossible_42 ?_
                refine lv_if_eq (tgt := 48) hx hb dX2_isPossible_43 (by decide) (fun c_4 => ?_) (fun c_4 => ?_)
                · -- taken
                  refine lv_iinc (v := nI (t + 1)) (lv' := [(4, .int (nI (t + 1))), (3, .int (nI k)), (0, .ref (xa x 0)), (1, .long L)]) hx hb dX2_isPossible_48 hl (k := 0) rfl (nI_add (t) 1) (by decide) rfl (fun ls hl => ?_)
                  refine lv_goto (tgt := 13) hx hb dX2_isPossible_51 (by decide) ?_
                  exact ih_13 (t + 1) (by omega) (by omega) (by exact anyB_f hB (by simp [badO, c_1, c_2, c_3, c_4])) _ _ hP hV ls (lv_sub hl [0, 1, 2, 3] rfl)
                · -- on
                  refine lv_iconst (v := 0) hx hb dX2_isPossible_46 (by decide) ?_
                  exact g_zret hx hb hr hlk hS hZ hP hV (Nat.le_of_ble_eq_true rfl) (Nat.le_of_ble_eq_true rfl) dX2_isPossible_47 (by decide) (by have h9 : psO M pn L cn = false := by { have h8 : anyB (fun a => anyB (badO M pn L a) a) cn = true := anyB_of (k := k) (by omega) (anyB_of (k := t) (by omega) (by simp [badO, c_1, c_2, c_3, c_4])); simp [psO, h8] }; rw [h9]; rfl) (by rfl)
        exact lp_13 (k - (0) + 1) (0) (by omega) (by omega) (by rfl) _ _ hP hV ls (lv_sub hl [0, 1, 2, 3] rfl)
  exact lp_2 (cn - (0) + 1) (0) (by omega) (by omega) (by rfl) _ _ hP hV ls (lv_sub hl [0, 1, 2] rfl)
set_option maxHeartbeats 4000000 in
set_option maxRecDepth 100000 in
theorem c_X2_isMetByAny (l : Launch) (x : Cx) (M : Nat → Nat → Int32) (cn gn dn : Nat) (pn : Nat → Nat) (L : Int64) (g : Nat) (hO : OkO M cn gn dn pn) (hg : g < 5) : Met l yX2_isMetByAny wsX2_isMetByAny ({ frames := 4, cells := 0, slots := 0, locals := 92 }) (gP x M [.ref (xa x 0), .long L, .ref (xa x (6 + g))]) (gQ x (some (.int (bI (anyB (mbO M pn L g) cn)))) M) 0 0 (gF x) := by
  refine g_met (cc := cX2_isMetByAny) (maxL := 6) (ret := some .boolean) (by decide) rfl (Nat.le_of_ble_eq_true rfl) ?_
  intro p e s m below meth c hx hb hr hml hts hown hlk hS hZ hP hV ls hl
  have hl : lv_has ls 6 [(0, .ref (xa x 0)), (1, .long L), (3, .ref (xa x (6 + g)))] := hl
  have hw_f20 := hts (.fieldLink RX2 20 "CableOffice" "cableCount" "I") (by decide +kernel)
  have hinX2 : ∀ w ∈ wsX20, w ∈ wsX2_isMetByAny := by decide +kernel
  have hw_f16 := hts (.fieldLink RX2 16 "CableOffice" "routes" "[LCableOffice$Route;") (by decide +kernel)
  have hw_iX1 := hts (.initialized RX1) (by decide +kernel)
  have hw_imX1_pieces := hts (.instanceMethod yX1_pieces) (by decide +kernel)
  have hw_seX1_pieces := hts (.selects RX1 yX1_pieces yX1_pieces) (by decide +kernel)
  have hw_imX1_pieceMeets := hts (.instanceMethod yX1_pieceMeets) (by decide +kernel)
  have hw_seX1_pieceMeets := hts (.selects RX1 yX1_pieceMeets yX1_pieceMeets) (by decide +kernel)
  have hc8 := hO.c8
  have hg5 := hO.g5
  have hd8 := hO.d8
  refine lv_iconst (v := 0) hx hb dX2_isMetByAny_0 (by decide) ?_
  refine lv_istore (lv' := [(4, .int 0), (0, .ref (xa x 0)), (1, .long L), (3, .ref (xa x (6 + g)))]) hx hb dX2_isMetByAny_1 hl (by decide) rfl (fun ls hl => ?_)
  have lp_3 : ∀ (nn k : Nat), cn - k < nn → k ≤ cn → anyB (mbO M pn L g) k = false → ∀ (H : Heap) (locs : List Loc), va_P (xD x) vwCl (wAll x M) H → va_S (gF x) s.heap H locs → ∀ ls : Array Slot, lv_has ls 6 [(4, .int (nI k)), (0, .ref (xa x 0)), (1, .long L), (3, .ref (xa x (6 + g)))] → W p l e ({ frames := 4, cells := 0, slots := 0, locals := 92 }) s m ([.ref (xa x 0), .long L, .ref (xa x (6 + g))] : List Value).toArray below meth c H locs 0 0 (MQ below (gQ x (some (.int (bI (anyB (mbO M pn L g) cn)))) M) ([.ref (xa x 0), .long L, .ref (xa x (6 + g))] : List Value).toArray s 0 0 (gF x)) (F0 m 3 ls []) := by
    intro nn
    induction nn with
    | zero => intro k hz; exact absurd hz (Nat.not_lt_zero _)
    | succ nn ih_3 =>
      intro k hf_3 hk_3 hA H locs hP hV ls hl
      refine lv_iload hx hb dX2_isMetByAny_3 (lv_at hl 0 rfl) ?_
      refine lv_aload_n hx hb dX2_isMetByAny_5 rfl (lv_at hl 1 rfl) ?_
      refine g_get (C := RX2) (T := TX2) (N := 9) (v := .int (nI cn)) hx hb hts hinX2 hown hS hP (id := 0) (by decide) rfl rfl 2 (by decide) hw_f20 (congrArg (fun z => some (Value.int z)) hO.c) dX2_isMetByAny_6 ?_
      refine h_icmp_ge_n (a := k) (b := cn) (tgt := 71) hx hb (by omega) (by omega) dX2_isMetByAny_9 (by decide) (fun c_1 => ?_) (fun c_1 => ?_)
      · -- taken
        refine lv_iconst (v := 0) hx hb dX2_isMetByAny_71 (by decide) ?_
        exact g_zret hx hb hr hlk hS hZ hP hV (Nat.le_of_ble_eq_true rfl) (Nat.le_of_ble_eq_true rfl) dX2_isMetByAny_72 (by decide) (by have h9 : anyB (mbO M pn L g) cn = false := (by rw [show k = cn by omega] at hA; exact hA); rw [h9]; rfl) (by rfl)
      · -- on
        have h7k := hO.p7 (show k < cn by omega)
        refine lv_iconst (v := 0) hx hb dX2_isMetByAny_12 (by decide) ?_
        refine lv_istore (lv' := [(5, .int 0), (4, .int (nI k)), (0, .ref (xa x 0)), (1, .long L), (3, .ref (xa x (6 + g)))]) hx hb dX2_isMetByAny_13 hl (by decide) rfl (fun ls hl => ?_)
        have lp_15 : ∀ (nn t : Nat), (pn k) - t < nn → t ≤ (pn k) → anyB (fun q => inL L (8 * k + q) && mtO (rX M k) (rY M k) q (M (6 + g) 0) (M (6 + g) 1) (M (6 + g) 2) (M (6 + g) 3)) t = false → ∀ (H : Heap) (locs : List Loc), va_P (xD x) vwCl (wAll x M) H → va_S (gF x) s.heap H locs → ∀ ls : Array Slot, lv_has ls 6 [(5, .int (nI t)), (4, .int (nI k)), (0, .ref (xa x 0)), (1, .long L), (3, .ref (xa x (6 + g)))] → W p l e ({ frames := 4, cells := 0, slots := 0, locals := 92 }) s m ([.ref (xa x 0), .long L, .ref (xa x (6 + g))] : List Value).toArray below meth c H locs 0 0 (MQ below (gQ x (some (.int (bI (anyB (mbO M pn L g) cn)))) M) ([.ref (xa x 0), .long L, .ref (xa x (6 + g))] : List Value).toArray s 0 0 (gF x)) (F0 m 15 ls []) := by
          intro nn
          induction nn with
          | zero => intro t hz; exact absurd hz (Nat.not_lt_zero _)
          | succ nn ih_15 =>
            intro t hf_15 hk_15 hB H locs hP hV ls hl
            refine lv_iload hx hb dX2_isMetByAny_15 (lv_at hl 0 rfl) ?_
            refine lv_aload_n hx hb dX2_isMetByAny_17 rfl (lv_at hl 2 rfl) ?_
            refine g_get (C := RX2) (T := TX2) (N := 9) (v := .ref (xa x 1)) hx hb hts hinX2 hown hS hP (id := 0) (by decide) rfl rfl 1 (by decide) hw_f16 rfl dX2_isMetByAny_18 ?_
            refine lv_iload hx hb dX2_isMetByAny_21 (lv_at hl 1 rfl) ?_
            refine g_aaldR (j := k) hx hb hS hP rfl (by omega) dX2_isMetByAny_23 ?_
            refine g_call1 (va_runVN (As := []) (rest := [.int (nI t)]) ⟨hx, hb, hml, hown, hts⟩ (c_X1_pieces l x M k (pn k) (by omega) (hO.p (by omega))) ⟨va_cnB (host := RX2) 0 hts gX2_isMetByAny_X1_pieces_n200 rfl rfl rfl (hS.2.2.2.2.1 _ (by decide +kernel)) hw_iX1 (by decide +kernel) ⟨Nat.le_of_ble_eq_true rfl, Nat.le_of_ble_eq_true rfl⟩, hw_imX1_pieces, hw_seX1_pieces⟩ (g_preV hS hZ hP hV [] (id := 11 + 3 * k) (by omega) (sh_r x _ (by omega)) rfl) rfl rfl hl.1 rfl (lv_room (Nat.le_of_ble_eq_true rfl)) dX2_isMetByAny_24 ⟨Nat.le_of_ble_eq_true rfl, Nat.le_of_ble_eq_true rfl⟩) hV (fun H locs hP hV => ?_)
            refine h_icmp_ge_n (a := t) (b := pn k) (tgt := 65) hx hb (by omega) (by omega) dX2_isMetByAny_27 (by decide) (fun c_2 => ?_) (fun c_2 => ?_)
            · -- taken
              refine lv_iinc (v := nI (k + 1)) (lv' := [(4, .int (nI (k + 1))), (5, .int (nI t)), (0, .ref (xa x 0)), (1, .long L), (3, .ref (xa x (6 + g)))]) hx hb dX2_isMetByAny_65 hl (k := 1) rfl (nI_add (k) 1) (by decide) rfl (fun ls hl => ?_)
              refine lv_goto (tgt := 3) hx hb dX2_isMetByAny_68 (by decide) ?_
              exact ih_3 (k + 1) (by omega) (by omega) (by exact anyB_f hA (by rw [show t = pn k by omega] at hB; exact hB)) _ _ hP hV ls (lv_sub hl [0, 2, 3, 4] rfl)
            · -- on
              refine lv_lload_n hx hb dX2_isMetByAny_30 rfl (lv_at hl 3 rfl) ?_
              refine lv_iload hx hb dX2_isMetByAny_31 (lv_at hl 1 rfl) ?_
              refine lv_iload hx hb dX2_isMetByAny_33 (lv_at hl 0 rfl) ?_
              refine g_call1 (va_runS (As := [.long L, .int (nI k), .int (nI t)]) (rest := []) ⟨hx, hb, hml, hown, hts⟩ (c_X2_isIn l x M L k t) (va_cwS 3 hts gX2_isMetByAny_X2_isIn rfl rfl rfl (by decide +kernel) ⟨Nat.le_of_ble_eq_true rfl, Nat.le_of_ble_eq_true rfl⟩) (g_preS hS hZ hP hV [.long L, .int (nI k), .int (nI t)]) rfl rfl hl.1 rfl (lv_room (Nat.le_of_ble_eq_true rfl)) dX2_isMetByAny_35 ⟨Nat.le_of_ble_eq_true rfl, Nat.le_of_ble_eq_true rfl⟩) hV (fun H locs hP hV => ?_)
              refine h_if_eq_b (tgt := 59) hx hb dX2_isMetByAny_38 (by decide) (fun c_3 => ?_) (fun c_3 => ?_)
              · -- taken
                refine lv_iinc (v := nI (t + 1)) (lv' := [(5, .int (nI (t + 1))), (4, .int (nI k)), (0, .ref (xa x 0)), (1, .long L), (3, .ref (xa x (6 + g)))]) hx hb dX2_isMetByAny_59 hl (k := 0) rfl (nI_add (t) 1) (by decide) rfl (fun ls hl => ?_)
                refine lv_goto (tgt := 15) hx hb dX2_isMetByAny_62 (by decide) ?_
                exact ih_15 (t + 1) (by omega) (by omega) (by exact anyB_f hB (by simp [rX, rY, c_1, c_2, c_3])) _ _ hP hV ls (lv_sub hl [0, 1, 2, 3, 4] rfl)
              · -- on
                refine lv_aload_n hx hb dX2_isMetByAny_41 rfl (lv_at hl 2 rfl) ?_
                refine g_get (C := RX2) (T := TX2) (N := 9) (v := .ref (xa x 1)) hx hb hts hinX2 hown hS hP (id := 0) (by decide) rfl rfl 1 (by decide) hw_f16 rfl dX2_isMetByAny_42 ?_
                refine lv_iload hx hb dX2_isMetByAny_45 (lv_at hl 1 rfl) ?_
                refine g_aaldR (j := k) hx hb hS hP rfl (by omega) dX2_isMetByAny_47 ?_
                refine lv_iload hx hb dX2_isMetByAny_48 (lv_at hl 0 rfl) ?_
                refine lv_aload_n hx hb dX2_isMetByAny_50 rfl (lv_at hl 4 rfl) ?_
                refine g_call1 (va_runVN (As := [.int (nI t), .ref (xa x (6 + g))]) (rest := []) ⟨hx, hb, hml, hown, hts⟩ (c_X1_pieceMeets l x M k t g (by omega) (by omega) (by omega)) ⟨va_cnB (host := RX2) 2 hts gX2_isMetByAny_X1_pieceMeets_n155 rfl rfl rfl (hS.2.2.2.2.1 _ (by decide +kernel)) hw_iX1 (by decide +kernel) ⟨Nat.le_of_ble_eq_true rfl, Nat.le_of_ble_eq_true rfl⟩, hw_imX1_pieceMeets, hw_seX1_pieceMeets⟩ (g_preV hS hZ hP hV [.int (nI t), .ref (xa x (6 + g))] (id := 11 + 3 * k) (by omega) (sh_r x _ (by omega)) rfl) rfl rfl hl.1 rfl (lv_room (Nat.le_of_ble_eq_true rfl)) dX2_isMetByAny_51 ⟨Nat.le_of_ble_eq_true rfl, Nat.le_of_ble_eq_true rfl⟩) hV (fun H locs hP hV => ?_)
                refine h_if_eq_b (tgt := 59) hx hb dX2_isMetByAny_54 (by decide) (fun c_4 => ?_) (fun c_4 => ?_)
                · -- taken
                  refine lv_iinc (v := nI (t + 1)) (lv' := [(5, .int (nI (t + 1))), (4, .int (nI k)), (0, .ref (xa x 0)), (1, .long L), (3, .ref (xa x (6 + g)))]) hx hb dX2_isMetByAny_59 hl (k := 0) rfl (nI_add (t) 1) (by decide) rfl (fun ls hl => ?_)
                  refine lv_goto (tgt := 15) hx hb dX2_isMetByAny_62 (by decide) ?_
                  exact ih_15 (t + 1) (by omega) (by omega) (by exact anyB_f hB (by simp [rX, rY, c_1, c_2, c_3, c_4])) _ _ hP hV ls (lv_sub hl [0, 1, 2, 3, 4] rfl)
                · -- on
                  refine lv_iconst (v := 1) hx hb dX2_isMetByAny_57 (by decide) ?_
                  exact g_zret hx hb hr hlk hS hZ hP hV (Nat.le_of_ble_eq_true rfl) (Nat.le_of_ble_eq_true rfl) dX2_isMetByAny_58 (by decide) (by have h9 : anyB (mbO M pn L g) cn = true := anyB_of (k := k) (by omega) (anyB_of (k := t) (by omega) (by simp [rX, rY, c_1, c_2, c_3, c_4])); rw [h9]; rfl) (by rfl)
        exact lp_15 ((pn k) - (0) + 1) (0) (by omega) (by omega) (by rfl) _ _ hP hV ls (lv_sub hl [0, 1, 2, 3, 4] rfl)
  exact lp_3 (cn - (0) + 1) (0) (by omega) (by omega) (by rfl) _ _ hP hV ls (lv_sub hl [0, 1, 2, 3] rfl)
set_option maxHeartbeats 4000000 in
set_option maxRecDepth 100000 in
theorem c_X2_isOwed (l : Launch) (x : Cx) (M : Nat → Nat → Int32) (cn gn dn : Nat) (pn : Nat → Nat) (L : Int64) (g : Nat) (mo : Int32) (hO : OkO M cn gn dn pn) (hg : g < 5) : Met l yX2_isOwed wsX2_isOwed ({ frames := 5, cells := 0, slots := 0, locals := 117 }) (gP x M [.ref (xa x 0), .long L, .ref (xa x (6 + g)), .int mo]) (gQ x (some (.int (bI (owO M pn cn L mo g)))) M) 0 0 (gF x) := by
  refine g_met (cc := cX2_isOwed) (maxL := 5) (ret := some .boolean) (by decide) rfl (Nat.le_of_ble_eq_true rfl) ?_
  intro p e s m below meth c hx hb hr hml hts hown hlk hS hZ hP hV ls hl
  have hl : lv_has ls 5 [(0, .ref (xa x 0)), (1, .long L), (3, .ref (xa x (6 + g))), (4, .int mo)] := hl
  have hw_iX0 := hts (.initialized RX0) (by decide +kernel)
  have hw_imX0_isShutIn := hts (.instanceMethod yX0_isShutIn) (by decide +kernel)
  have hw_seX0_isShutIn := hts (.selects RX0 yX0_isShutIn yX0_isShutIn) (by decide +kernel)
  have hc8 := hO.c8
  have hg5 := hO.g5
  have hd8 := hO.d8
  refine lv_aload_n hx hb dX2_isOwed_0 rfl (lv_at hl 2 rfl) ?_
  refine lv_iload hx hb dX2_isOwed_1 (lv_at hl 3 rfl) ?_
  refine g_call1 (va_runVN (As := [.int mo]) (rest := []) ⟨hx, hb, hml, hown, hts⟩ (c_X0_isShutIn l x M g mo (by omega)) ⟨va_cnB (host := RX2) 1 hts gX2_isOwed_X0_isShutIn_n148 rfl rfl rfl (hS.2.2.2.2.1 _ (by decide +kernel)) hw_iX0 (by decide +kernel) ⟨Nat.le_of_ble_eq_true rfl, Nat.le_of_ble_eq_true rfl⟩, hw_imX0_isShutIn, hw_seX0_isShutIn⟩ (g_preV hS hZ hP hV [.int mo] (id := 6 + g) (by omega) (sh_g x _ (by omega)) rfl) rfl rfl hl.1 rfl (lv_room (Nat.le_of_ble_eq_true rfl)) dX2_isOwed_3 ⟨Nat.le_of_ble_eq_true rfl, Nat.le_of_ble_eq_true rfl⟩) hV (fun H locs hP hV => ?_)
  refine h_if_eq_b (tgt := 22) hx hb dX2_isOwed_6 (by decide) (fun c_1 => ?_) (fun c_1 => ?_)
  · -- taken
    refine lv_iconst (v := 0) hx hb dX2_isOwed_22 (by decide) ?_
    exact g_zret hx hb hr hlk hS hZ hP hV (Nat.le_of_ble_eq_true rfl) (Nat.le_of_ble_eq_true rfl) dX2_isOwed_23 (by decide) (by simp [owO, bI, c_1]) (by rfl)
  · -- on
    refine lv_aload_n hx hb dX2_isOwed_9 rfl (lv_at hl 0 rfl) ?_
    refine lv_lload_n hx hb dX2_isOwed_10 rfl (lv_at hl 1 rfl) ?_
    refine lv_aload_n hx hb dX2_isOwed_11 rfl (lv_at hl 2 rfl) ?_
    refine g_call1 (va_runV (As := [.long L, .ref (xa x (6 + g))]) (rest := []) ⟨hx, hb, hml, hown, hts⟩ (c_X2_isMetByAny l x M cn gn dn pn L g hO (by omega)) (cwV 2 hts gX2_isOwed_X2_isMetByAny rfl rfl rfl (by decide +kernel) ⟨Nat.le_of_ble_eq_true rfl, Nat.le_of_ble_eq_true rfl⟩) (g_preV hS hZ hP hV [.long L, .ref (xa x (6 + g))] (id := 0) (by decide) rfl rfl) rfl rfl hl.1 rfl (lv_room (Nat.le_of_ble_eq_true rfl)) dX2_isOwed_12 ⟨Nat.le_of_ble_eq_true rfl, Nat.le_of_ble_eq_true rfl⟩) hV (fun H locs hP hV => ?_)
    refine h_if_eq_b (tgt := 22) hx hb dX2_isOwed_15 (by decide) (fun c_2 => ?_) (fun c_2 => ?_)
    · -- taken
      refine lv_iconst (v := 0) hx hb dX2_isOwed_22 (by decide) ?_
      exact g_zret hx hb hr hlk hS hZ hP hV (Nat.le_of_ble_eq_true rfl) (Nat.le_of_ble_eq_true rfl) dX2_isOwed_23 (by decide) (by simp [owO, bI, c_1, c_2]) (by rfl)
    · -- on
      refine lv_iconst (v := 1) hx hb dX2_isOwed_18 (by decide) ?_
      refine lv_goto (tgt := 23) hx hb dX2_isOwed_19 (by decide) ?_
      exact g_zret hx hb hr hlk hS hZ hP hV (Nat.le_of_ble_eq_true rfl) (Nat.le_of_ble_eq_true rfl) dX2_isOwed_23 (by decide) (by simp [owO, bI, c_1, c_2]) (by rfl)
set_option maxHeartbeats 4000000 in
set_option maxRecDepth 100000 in
theorem c_J13_bitCount (l : Launch) (x : Cx) (M : Nat → Nat → Int32) (L : Int64) : Met l yJ13_bitCount_95d88 wsJ13_bitCount_95d88 ({ frames := 0, cells := 0, slots := 0, locals := 0 }) (gP x M [.long L]) (gQ x (some (.int (bcI L))) M) 0 0 (gF x) := by
  refine g_metF (cc := cJ13_bitCount_95d88) (maxL := 2) (ret := some .int) (by decide) rfl (Nat.le_of_ble_eq_true rfl) ?_
  intro p e s m below meth c hx hb hr hml hts hown hlk hS hZ hP hV ls hl
  have hl : lv_has ls 2 [(0, .long L)] := hl
  have hw_k314 := hts (.constantLong RJ13 314 (6148914691236517205)) (by decide +kernel)
  have hw_k316 := hts (.constantLong RJ13 316 (3689348814741910323)) (by decide +kernel)
  have hw_k318 := hts (.constantLong RJ13 318 (1085102592571150095)) (by decide +kernel)
  refine lv_lload_n hx hb dJ13_bitCount_95d88_0 rfl (lv_at hl 0 rfl) ?_
  refine lv_lload_n hx hb dJ13_bitCount_95d88_1 rfl (lv_at hl 0 rfl) ?_
  refine lv_iconst (v := 1) hx hb dJ13_bitCount_95d88_2 (by decide) ?_
  refine lv_lushr (v := (L.toUInt64 >>> ((1 : Int32).toInt64.toUInt64 &&& Int64.toUInt64 63)).toInt64) hx hb dJ13_bitCount_95d88_3 rfl ?_
  refine lv_ldc2 (v := 6148914691236517205) hx hb hown hw_k314 dJ13_bitCount_95d88_4 ?_
  refine lv_land hx hb dJ13_bitCount_95d88_7 ?_
  refine lv_lsub hx hb dJ13_bitCount_95d88_8 ?_
  refine lv_lstore_n (lv' := [(0, .long (L - (((L.toUInt64 >>> ((1 : Int32).toInt64.toUInt64 &&& Int64.toUInt64 63)).toInt64) &&& 6148914691236517205)))]) hx hb dJ13_bitCount_95d88_9 rfl hl (by decide) rfl (fun ls hl => ?_)
  refine lv_lload_n hx hb dJ13_bitCount_95d88_10 rfl (lv_at hl 0 rfl) ?_
  refine lv_ldc2 (v := 3689348814741910323) hx hb hown hw_k316 dJ13_bitCount_95d88_11 ?_
  refine lv_land hx hb dJ13_bitCount_95d88_14 ?_
  refine lv_lload_n hx hb dJ13_bitCount_95d88_15 rfl (lv_at hl 0 rfl) ?_
  refine lv_iconst (v := 2) hx hb dJ13_bitCount_95d88_16 (by decide) ?_
  refine lv_lushr (v := ((L - (((L.toUInt64 >>> ((1 : Int32).toInt64.toUInt64 &&& Int64.toUInt64 63)).toInt64) &&& 6148914691236517205)).toUInt64 >>> ((2 : Int32).toInt64.toUInt64 &&& Int64.toUInt64 63)).toInt64) hx hb dJ13_bitCount_95d88_17 rfl ?_
  refine lv_ldc2 (v := 3689348814741910323) hx hb hown hw_k316 dJ13_bitCount_95d88_18 ?_
  refine lv_land hx hb dJ13_bitCount_95d88_21 ?_
  refine lv_ladd hx hb dJ13_bitCount_95d88_22 ?_
  refine lv_lstore_n (lv' := [(0, .long (((L - (((L.toUInt64 >>> ((1 : Int32).toInt64.toUInt64 &&& Int64.toUInt64 63)).toInt64) &&& 6148914691236517205)) &&& 3689348814741910323) + ((((L - (((L.toUInt64 >>> ((1 : Int32).toInt64.toUInt64 &&& Int64.toUInt64 63)).toInt64) &&& 6148914691236517205)).toUInt64 >>> ((2 : Int32).toInt64.toUInt64 &&& Int64.toUInt64 63)).toInt64) &&& 3689348814741910323)))]) hx hb dJ13_bitCount_95d88_23 rfl hl (by decide) rfl (fun ls hl => ?_)
  refine lv_lload_n hx hb dJ13_bitCount_95d88_24 rfl (lv_at hl 0 rfl) ?_
  refine lv_lload_n hx hb dJ13_bitCount_95d88_25 rfl (lv_at hl 0 rfl) ?_
  refine lv_iconst (v := 4) hx hb dJ13_bitCount_95d88_26 (by decide) ?_
  refine lv_lushr (v := ((((L - (((L.toUInt64 >>> ((1 : Int32).toInt64.toUInt64 &&& Int64.toUInt64 63)).toInt64) &&& 6148914691236517205)) &&& 3689348814741910323) + ((((L - (((L.toUInt64 >>> ((1 : Int32).toInt64.toUInt64 &&& Int64.toUInt64 63)).toInt64) &&& 6148914691236517205)).toUInt64 >>> ((2 : Int32).toInt64.toUInt64 &&& Int64.toUInt64 63)).toInt64) &&& 3689348814741910323)).toUInt64 >>> ((4 : Int32).toInt64.toUInt64 &&& Int64.toUInt64 63)).toInt64) hx hb dJ13_bitCount_95d88_27 rfl ?_
  refine lv_ladd hx hb dJ13_bitCount_95d88_28 ?_
  refine lv_ldc2 (v := 1085102592571150095) hx hb hown hw_k318 dJ13_bitCount_95d88_29 ?_
  refine lv_land hx hb dJ13_bitCount_95d88_32 ?_
  refine lv_lstore_n (lv' := [(0, .long (((((L - (((L.toUInt64 >>> ((1 : Int32).toInt64.toUInt64 &&& Int64.toUInt64 63)).toInt64) &&& 6148914691236517205)) &&& 3689348814741910323) + ((((L - (((L.toUInt64 >>> ((1 : Int32).toInt64.toUInt64 &&& Int64.toUInt64 63)).toInt64) &&& 6148914691236517205)).toUInt64 >>> ((2 : Int32).toInt64.toUInt64 &&& Int64.toUInt64 63)).toInt64) &&& 3689348814741910323)) + (((((L - (((L.toUInt64 >>> ((1 : Int32).toInt64.toUInt64 &&& Int64.toUInt64 63)).toInt64) &&& 6148914691236517205)) &&& 3689348814741910323) + ((((L - (((L.toUInt64 >>> ((1 : Int32).toInt64.toUInt64 &&& Int64.toUInt64 63)).toInt64) &&& 6148914691236517205)).toUInt64 >>> ((2 : Int32).toInt64.toUInt64 &&& Int64.toUInt64 63)).toInt64) &&& 3689348814741910323)).toUInt64 >>> ((4 : Int32).toInt64.toUInt64 &&& Int64.toUInt64 63)).toInt64)) &&& 1085102592571150095))]) hx hb dJ13_bitCount_95d88_33 rfl hl (by decide) rfl (fun ls hl => ?_)
  refine lv_lload_n hx hb dJ13_bitCount_95d88_34 rfl (lv_at hl 0 rfl) ?_
  refine lv_lload_n hx hb dJ13_bitCount_95d88_35 rfl (lv_at hl 0 rfl) ?_
  refine lv_bipush (v := 8) hx hb dJ13_bitCount_95d88_36 (by decide) ?_
  refine lv_lushr (v := ((((((L - (((L.toUInt64 >>> ((1 : Int32).toInt64.toUInt64 &&& Int64.toUInt64 63)).toInt64) &&& 6148914691236517205)) &&& 3689348814741910323) + ((((L - (((L.toUInt64 >>> ((1 : Int32).toInt64.toUInt64 &&& Int64.toUInt64 63)).toInt64) &&& 6148914691236517205)).toUInt64 >>> ((2 : Int32).toInt64.toUInt64 &&& Int64.toUInt64 63)).toInt64) &&& 3689348814741910323)) + (((((L - (((L.toUInt64 >>> ((1 : Int32).toInt64.toUInt64 &&& Int64.toUInt64 63)).toInt64) &&& 6148914691236517205)) &&& 3689348814741910323) + ((((L - (((L.toUInt64 >>> ((1 : Int32).toInt64.toUInt64 &&& Int64.toUInt64 63)).toInt64) &&& 6148914691236517205)).toUInt64 >>> ((2 : Int32).toInt64.toUInt64 &&& Int64.toUInt64 63)).toInt64) &&& 3689348814741910323)).toUInt64 >>> ((4 : Int32).toInt64.toUInt64 &&& Int64.toUInt64 63)).toInt64)) &&& 1085102592571150095).toUInt64 >>> ((8 : Int32).toInt64.toUInt64 &&& Int64.toUInt64 63)).toInt64) hx hb dJ13_bitCount_95d88_38 rfl ?_
  refine lv_ladd hx hb dJ13_bitCount_95d88_39 ?_
  refine lv_lstore_n (lv' := [(0, .long ((((((L - (((L.toUInt64 >>> ((1 : Int32).toInt64.toUInt64 &&& Int64.toUInt64 63)).toInt64) &&& 6148914691236517205)) &&& 3689348814741910323) + ((((L - (((L.toUInt64 >>> ((1 : Int32).toInt64.toUInt64 &&& Int64.toUInt64 63)).toInt64) &&& 6148914691236517205)).toUInt64 >>> ((2 : Int32).toInt64.toUInt64 &&& Int64.toUInt64 63)).toInt64) &&& 3689348814741910323)) + (((((L - (((L.toUInt64 >>> ((1 : Int32).toInt64.toUInt64 &&& Int64.toUInt64 63)).toInt64) &&& 6148914691236517205)) &&& 3689348814741910323) + ((((L - (((L.toUInt64 >>> ((1 : Int32).toInt64.toUInt64 &&& Int64.toUInt64 63)).toInt64) &&& 6148914691236517205)).toUInt64 >>> ((2 : Int32).toInt64.toUInt64 &&& Int64.toUInt64 63)).toInt64) &&& 3689348814741910323)).toUInt64 >>> ((4 : Int32).toInt64.toUInt64 &&& Int64.toUInt64 63)).toInt64)) &&& 1085102592571150095) + (((((((L - (((L.toUInt64 >>> ((1 : Int32).toInt64.toUInt64 &&& Int64.toUInt64 63)).toInt64) &&& 6148914691236517205)) &&& 3689348814741910323) + ((((L - (((L.toUInt64 >>> ((1 : Int32).toInt64.toUInt64 &&& Int64.toUInt64 63)).toInt64) &&& 6148914691236517205)).toUInt64 >>> ((2 : Int32).toInt64.toUInt64 &&& Int64.toUInt64 63)).toInt64) &&& 3689348814741910323)) + (((((L - (((L.toUInt64 >>> ((1 : Int32).toInt64.toUInt64 &&& Int64.toUInt64 63)).toInt64) &&& 6148914691236517205)) &&& 3689348814741910323) + ((((L - (((L.toUInt64 >>> ((1 : Int32).toInt64.toUInt64 &&& Int64.toUInt64 63)).toInt64) &&& 6148914691236517205)).toUInt64 >>> ((2 : Int32).toInt64.toUInt64 &&& Int64.toUInt64 63)).toInt64) &&& 3689348814741910323)).toUInt64 >>> ((4 : Int32).toInt64.toUInt64 &&& Int64.toUInt64 63)).toInt64)) &&& 1085102592571150095).toUInt64 >>> ((8 : Int32).toInt64.toUInt64 &&& Int64.toUInt64 63)).toInt64)))]) hx hb dJ13_bitCount_95d88_40 rfl hl (by decide) rfl (fun ls hl => ?_)
  refine lv_lload_n hx hb dJ13_bitCount_95d88_41 rfl (lv_at hl 0 rfl) ?_
  refine lv_lload_n hx hb dJ13_bitCount_95d88_42 rfl (lv_at hl 0 rfl) ?_
  refine lv_bipush (v := 16) hx hb dJ13_bitCount_95d88_43 (by decide) ?_
  refine lv_lushr (v := (((((((L - (((L.toUInt64 >>> ((1 : Int32).toInt64.toUInt64 &&& Int64.toUInt64 63)).toInt64) &&& 6148914691236517205)) &&& 3689348814741910323) + ((((L - (((L.toUInt64 >>> ((1 : Int32).toInt64.toUInt64 &&& Int64.toUInt64 63)).toInt64) &&& 6148914691236517205)).toUInt64 >>> ((2 : Int32).toInt64.toUInt64 &&& Int64.toUInt64 63)).toInt64) &&& 3689348814741910323)) + (((((L - (((L.toUInt64 >>> ((1 : Int32).toInt64.toUInt64 &&& Int64.toUInt64 63)).toInt64) &&& 6148914691236517205)) &&& 3689348814741910323) + ((((L - (((L.toUInt64 >>> ((1 : Int32).toInt64.toUInt64 &&& Int64.toUInt64 63)).toInt64) &&& 6148914691236517205)).toUInt64 >>> ((2 : Int32).toInt64.toUInt64 &&& Int64.toUInt64 63)).toInt64) &&& 3689348814741910323)).toUInt64 >>> ((4 : Int32).toInt64.toUInt64 &&& Int64.toUInt64 63)).toInt64)) &&& 1085102592571150095) + (((((((L - (((L.toUInt64 >>> ((1 : Int32).toInt64.toUInt64 &&& Int64.toUInt64 63)).toInt64) &&& 6148914691236517205)) &&& 3689348814741910323) + ((((L - (((L.toUInt64 >>> ((1 : Int32).toInt64.toUInt64 &&& Int64.toUInt64 63)).toInt64) &&& 6148914691236517205)).toUInt64 >>> ((2 : Int32).toInt64.toUInt64 &&& Int64.toUInt64 63)).toInt64) &&& 3689348814741910323)) + (((((L - (((L.toUInt64 >>> ((1 : Int32).toInt64.toUInt64 &&& Int64.toUInt64 63)).toInt64) &&& 6148914691236517205)) &&& 3689348814741910323) + ((((L - (((L.toUInt64 >>> ((1 : Int32).toInt64.toUInt64 &&& Int64.toUInt64 63)).toInt64) &&& 6148914691236517205)).toUInt64 >>> ((2 : Int32).toInt64.toUInt64 &&& Int64.toUInt64 63)).toInt64) &&& 3689348814741910323)).toUInt64 >>> ((4 : Int32).toInt64.toUInt64 &&& Int64.toUInt64 63)).toInt64)) &&& 1085102592571150095).toUInt64 >>> ((8 : Int32).toInt64.toUInt64 &&& Int64.toUInt64 63)).toInt64)).toUInt64 >>> ((16 : Int32).toInt64.toUInt64 &&& Int64.toUInt64 63)).toInt64) hx hb dJ13_bitCount_95d88_45 rfl ?_
  refine lv_ladd hx hb dJ13_bitCount_95d88_46 ?_
  refine lv_lstore_n (lv' := [(0, .long (((((((L - (((L.toUInt64 >>> ((1 : Int32).toInt64.toUInt64 &&& Int64.toUInt64 63)).toInt64) &&& 6148914691236517205)) &&& 3689348814741910323) + ((((L - (((L.toUInt64 >>> ((1 : Int32).toInt64.toUInt64 &&& Int64.toUInt64 63)).toInt64) &&& 6148914691236517205)).toUInt64 >>> ((2 : Int32).toInt64.toUInt64 &&& Int64.toUInt64 63)).toInt64) &&& 3689348814741910323)) + (((((L - (((L.toUInt64 >>> ((1 : Int32).toInt64.toUInt64 &&& Int64.toUInt64 63)).toInt64) &&& 6148914691236517205)) &&& 3689348814741910323) + ((((L - (((L.toUInt64 >>> ((1 : Int32).toInt64.toUInt64 &&& Int64.toUInt64 63)).toInt64) &&& 6148914691236517205)).toUInt64 >>> ((2 : Int32).toInt64.toUInt64 &&& Int64.toUInt64 63)).toInt64) &&& 3689348814741910323)).toUInt64 >>> ((4 : Int32).toInt64.toUInt64 &&& Int64.toUInt64 63)).toInt64)) &&& 1085102592571150095) + (((((((L - (((L.toUInt64 >>> ((1 : Int32).toInt64.toUInt64 &&& Int64.toUInt64 63)).toInt64) &&& 6148914691236517205)) &&& 3689348814741910323) + ((((L - (((L.toUInt64 >>> ((1 : Int32).toInt64.toUInt64 &&& Int64.toUInt64 63)).toInt64) &&& 6148914691236517205)).toUInt64 >>> ((2 : Int32).toInt64.toUInt64 &&& Int64.toUInt64 63)).toInt64) &&& 3689348814741910323)) + (((((L - (((L.toUInt64 >>> ((1 : Int32).toInt64.toUInt64 &&& Int64.toUInt64 63)).toInt64) &&& 6148914691236517205)) &&& 3689348814741910323) + ((((L - (((L.toUInt64 >>> ((1 : Int32).toInt64.toUInt64 &&& Int64.toUInt64 63)).toInt64) &&& 6148914691236517205)).toUInt64 >>> ((2 : Int32).toInt64.toUInt64 &&& Int64.toUInt64 63)).toInt64) &&& 3689348814741910323)).toUInt64 >>> ((4 : Int32).toInt64.toUInt64 &&& Int64.toUInt64 63)).toInt64)) &&& 1085102592571150095).toUInt64 >>> ((8 : Int32).toInt64.toUInt64 &&& Int64.toUInt64 63)).toInt64)) + ((((((((L - (((L.toUInt64 >>> ((1 : Int32).toInt64.toUInt64 &&& Int64.toUInt64 63)).toInt64) &&& 6148914691236517205)) &&& 3689348814741910323) + ((((L - (((L.toUInt64 >>> ((1 : Int32).toInt64.toUInt64 &&& Int64.toUInt64 63)).toInt64) &&& 6148914691236517205)).toUInt64 >>> ((2 : Int32).toInt64.toUInt64 &&& Int64.toUInt64 63)).toInt64) &&& 3689348814741910323)) + (((((L - (((L.toUInt64 >>> ((1 : Int32).toInt64.toUInt64 &&& Int64.toUInt64 63)).toInt64) &&& 6148914691236517205)) &&& 3689348814741910323) + ((((L - (((L.toUInt64 >>> ((1 : Int32).toInt64.toUInt64 &&& Int64.toUInt64 63)).toInt64) &&& 6148914691236517205)).toUInt64 >>> ((2 : Int32).toInt64.toUInt64 &&& Int64.toUInt64 63)).toInt64) &&& 3689348814741910323)).toUInt64 >>> ((4 : Int32).toInt64.toUInt64 &&& Int64.toUInt64 63)).toInt64)) &&& 1085102592571150095) + (((((((L - (((L.toUInt64 >>> ((1 : Int32).toInt64.toUInt64 &&& Int64.toUInt64 63)).toInt64) &&& 6148914691236517205)) &&& 3689348814741910323) + ((((L - (((L.toUInt64 >>> ((1 : Int32).toInt64.toUInt64 &&& Int64.toUInt64 63)).toInt64) &&& 6148914691236517205)).toUInt64 >>> ((2 : Int32).toInt64.toUInt64 &&& Int64.toUInt64 63)).toInt64) &&& 3689348814741910323)) + (((((L - (((L.toUInt64 >>> ((1 : Int32).toInt64.toUInt64 &&& Int64.toUInt64 63)).toInt64) &&& 6148914691236517205)) &&& 3689348814741910323) + ((((L - (((L.toUInt64 >>> ((1 : Int32).toInt64.toUInt64 &&& Int64.toUInt64 63)).toInt64) &&& 6148914691236517205)).toUInt64 >>> ((2 : Int32).toInt64.toUInt64 &&& Int64.toUInt64 63)).toInt64) &&& 3689348814741910323)).toUInt64 >>> ((4 : Int32).toInt64.toUInt64 &&& Int64.toUInt64 63)).toInt64)) &&& 1085102592571150095).toUInt64 >>> ((8 : Int32).toInt64.toUInt64 &&& Int64.toUInt64 63)).toInt64)).toUInt64 >>> ((16 : Int32).toInt64.toUInt64 &&& Int64.toUInt64 63)).toInt64)))]) hx hb dJ13_bitCount_95d88_47 rfl hl (by decide) rfl (fun ls hl => ?_)
  refine lv_lload_n hx hb dJ13_bitCount_95d88_48 rfl (lv_at hl 0 rfl) ?_
  refine lv_lload_n hx hb dJ13_bitCount_95d88_49 rfl (lv_at hl 0 rfl) ?_
  refine lv_bipush (v := 32) hx hb dJ13_bitCount_95d88_50 (by decide) ?_
  refine lv_lushr (v := ((((((((L - (((L.toUInt64 >>> ((1 : Int32).toInt64.toUInt64 &&& Int64.toUInt64 63)).toInt64) &&& 6148914691236517205)) &&& 3689348814741910323) + ((((L - (((L.toUInt64 >>> ((1 : Int32).toInt64.toUInt64 &&& Int64.toUInt64 63)).toInt64) &&& 6148914691236517205)).toUInt64 >>> ((2 : Int32).toInt64.toUInt64 &&& Int64.toUInt64 63)).toInt64) &&& 3689348814741910323)) + (((((L - (((L.toUInt64 >>> ((1 : Int32).toInt64.toUInt64 &&& Int64.toUInt64 63)).toInt64) &&& 6148914691236517205)) &&& 3689348814741910323) + ((((L - (((L.toUInt64 >>> ((1 : Int32).toInt64.toUInt64 &&& Int64.toUInt64 63)).toInt64) &&& 6148914691236517205)).toUInt64 >>> ((2 : Int32).toInt64.toUInt64 &&& Int64.toUInt64 63)).toInt64) &&& 3689348814741910323)).toUInt64 >>> ((4 : Int32).toInt64.toUInt64 &&& Int64.toUInt64 63)).toInt64)) &&& 1085102592571150095) + (((((((L - (((L.toUInt64 >>> ((1 : Int32).toInt64.toUInt64 &&& Int64.toUInt64 63)).toInt64) &&& 6148914691236517205)) &&& 3689348814741910323) + ((((L - (((L.toUInt64 >>> ((1 : Int32).toInt64.toUInt64 &&& Int64.toUInt64 63)).toInt64) &&& 6148914691236517205)).toUInt64 >>> ((2 : Int32).toInt64.toUInt64 &&& Int64.toUInt64 63)).toInt64) &&& 3689348814741910323)) + (((((L - (((L.toUInt64 >>> ((1 : Int32).toInt64.toUInt64 &&& Int64.toUInt64 63)).toInt64) &&& 6148914691236517205)) &&& 3689348814741910323) + ((((L - (((L.toUInt64 >>> ((1 : Int32).toInt64.toUInt64 &&& Int64.toUInt64 63)).toInt64) &&& 6148914691236517205)).toUInt64 >>> ((2 : Int32).toInt64.toUInt64 &&& Int64.toUInt64 63)).toInt64) &&& 3689348814741910323)).toUInt64 >>> ((4 : Int32).toInt64.toUInt64 &&& Int64.toUInt64 63)).toInt64)) &&& 1085102592571150095).toUInt64 >>> ((8 : Int32).toInt64.toUInt64 &&& Int64.toUInt64 63)).toInt64)) + ((((((((L - (((L.toUInt64 >>> ((1 : Int32).toInt64.toUInt64 &&& Int64.toUInt64 63)).toInt64) &&& 6148914691236517205)) &&& 3689348814741910323) + ((((L - (((L.toUInt64 >>> ((1 : Int32).toInt64.toUInt64 &&& Int64.toUInt64 63)).toInt64) &&& 6148914691236517205)).toUInt64 >>> ((2 : Int32).toInt64.toUInt64 &&& Int64.toUInt64 63)).toInt64) &&& 3689348814741910323)) + (((((L - (((L.toUInt64 >>> ((1 : Int32).toInt64.toUInt64 &&& Int64.toUInt64 63)).toInt64) &&& 6148914691236517205)) &&& 3689348814741910323) + ((((L - (((L.toUInt64 >>> ((1 : Int32).toInt64.toUInt64 &&& Int64.toUInt64 63)).toInt64) &&& 6148914691236517205)).toUInt64 >>> ((2 : Int32).toInt64.toUInt64 &&& Int64.toUInt64 63)).toInt64) &&& 3689348814741910323)).toUInt64 >>> ((4 : Int32).toInt64.toUInt64 &&& Int64.toUInt64 63)).toInt64)) &&& 1085102592571150095) + (((((((L - (((L.toUInt64 >>> ((1 : Int32).toInt64.toUInt64 &&& Int64.toUInt64 63)).toInt64) &&& 6148914691236517205)) &&& 3689348814741910323) + ((((L - (((L.toUInt64 >>> ((1 : Int32).toInt64.toUInt64 &&& Int64.toUInt64 63)).toInt64) &&& 6148914691236517205)).toUInt64 >>> ((2 : Int32).toInt64.toUInt64 &&& Int64.toUInt64 63)).toInt64) &&& 3689348814741910323)) + (((((L - (((L.toUInt64 >>> ((1 : Int32).toInt64.toUInt64 &&& Int64.toUInt64 63)).toInt64) &&& 6148914691236517205)) &&& 3689348814741910323) + ((((L - (((L.toUInt64 >>> ((1 : Int32).toInt64.toUInt64 &&& Int64.toUInt64 63)).toInt64) &&& 6148914691236517205)).toUInt64 >>> ((2 : Int32).toInt64.toUInt64 &&& Int64.toUInt64 63)).toInt64) &&& 3689348814741910323)).toUInt64 >>> ((4 : Int32).toInt64.toUInt64 &&& Int64.toUInt64 63)).toInt64)) &&& 1085102592571150095).toUInt64 >>> ((8 : Int32).toInt64.toUInt64 &&& Int64.toUInt64 63)).toInt64)).toUInt64 >>> ((16 : Int32).toInt64.toUInt64 &&& Int64.toUInt64 63)).toInt64)).toUInt64 >>> ((32 : Int32).toInt64.toUInt64 &&& Int64.toUInt64 63)).toInt64) hx hb dJ13_bitCount_95d88_52 rfl ?_
  refine lv_ladd hx hb dJ13_bitCount_95d88_53 ?_
  refine lv_lstore_n (lv' := [(0, .long ((((((((L - (((L.toUInt64 >>> ((1 : Int32).toInt64.toUInt64 &&& Int64.toUInt64 63)).toInt64) &&& 6148914691236517205)) &&& 3689348814741910323) + ((((L - (((L.toUInt64 >>> ((1 : Int32).toInt64.toUInt64 &&& Int64.toUInt64 63)).toInt64) &&& 6148914691236517205)).toUInt64 >>> ((2 : Int32).toInt64.toUInt64 &&& Int64.toUInt64 63)).toInt64) &&& 3689348814741910323)) + (((((L - (((L.toUInt64 >>> ((1 : Int32).toInt64.toUInt64 &&& Int64.toUInt64 63)).toInt64) &&& 6148914691236517205)) &&& 3689348814741910323) + ((((L - (((L.toUInt64 >>> ((1 : Int32).toInt64.toUInt64 &&& Int64.toUInt64 63)).toInt64) &&& 6148914691236517205)).toUInt64 >>> ((2 : Int32).toInt64.toUInt64 &&& Int64.toUInt64 63)).toInt64) &&& 3689348814741910323)).toUInt64 >>> ((4 : Int32).toInt64.toUInt64 &&& Int64.toUInt64 63)).toInt64)) &&& 1085102592571150095) + (((((((L - (((L.toUInt64 >>> ((1 : Int32).toInt64.toUInt64 &&& Int64.toUInt64 63)).toInt64) &&& 6148914691236517205)) &&& 3689348814741910323) + ((((L - (((L.toUInt64 >>> ((1 : Int32).toInt64.toUInt64 &&& Int64.toUInt64 63)).toInt64) &&& 6148914691236517205)).toUInt64 >>> ((2 : Int32).toInt64.toUInt64 &&& Int64.toUInt64 63)).toInt64) &&& 3689348814741910323)) + (((((L - (((L.toUInt64 >>> ((1 : Int32).toInt64.toUInt64 &&& Int64.toUInt64 63)).toInt64) &&& 6148914691236517205)) &&& 3689348814741910323) + ((((L - (((L.toUInt64 >>> ((1 : Int32).toInt64.toUInt64 &&& Int64.toUInt64 63)).toInt64) &&& 6148914691236517205)).toUInt64 >>> ((2 : Int32).toInt64.toUInt64 &&& Int64.toUInt64 63)).toInt64) &&& 3689348814741910323)).toUInt64 >>> ((4 : Int32).toInt64.toUInt64 &&& Int64.toUInt64 63)).toInt64)) &&& 1085102592571150095).toUInt64 >>> ((8 : Int32).toInt64.toUInt64 &&& Int64.toUInt64 63)).toInt64)) + ((((((((L - (((L.toUInt64 >>> ((1 : Int32).toInt64.toUInt64 &&& Int64.toUInt64 63)).toInt64) &&& 6148914691236517205)) &&& 3689348814741910323) + ((((L - (((L.toUInt64 >>> ((1 : Int32).toInt64.toUInt64 &&& Int64.toUInt64 63)).toInt64) &&& 6148914691236517205)).toUInt64 >>> ((2 : Int32).toInt64.toUInt64 &&& Int64.toUInt64 63)).toInt64) &&& 3689348814741910323)) + (((((L - (((L.toUInt64 >>> ((1 : Int32).toInt64.toUInt64 &&& Int64.toUInt64 63)).toInt64) &&& 6148914691236517205)) &&& 3689348814741910323) + ((((L - (((L.toUInt64 >>> ((1 : Int32).toInt64.toUInt64 &&& Int64.toUInt64 63)).toInt64) &&& 6148914691236517205)).toUInt64 >>> ((2 : Int32).toInt64.toUInt64 &&& Int64.toUInt64 63)).toInt64) &&& 3689348814741910323)).toUInt64 >>> ((4 : Int32).toInt64.toUInt64 &&& Int64.toUInt64 63)).toInt64)) &&& 1085102592571150095) + (((((((L - (((L.toUInt64 >>> ((1 : Int32).toInt64.toUInt64 &&& Int64.toUInt64 63)).toInt64) &&& 6148914691236517205)) &&& 3689348814741910323) + ((((L - (((L.toUInt64 >>> ((1 : Int32).toInt64.toUInt64 &&& Int64.toUInt64 63)).toInt64) &&& 6148914691236517205)).toUInt64 >>> ((2 : Int32).toInt64.toUInt64 &&& Int64.toUInt64 63)).toInt64) &&& 3689348814741910323)) + (((((L - (((L.toUInt64 >>> ((1 : Int32).toInt64.toUInt64 &&& Int64.toUInt64 63)).toInt64) &&& 6148914691236517205)) &&& 3689348814741910323) + ((((L - (((L.toUInt64 >>> ((1 : Int32).toInt64.toUInt64 &&& Int64.toUInt64 63)).toInt64) &&& 6148914691236517205)).toUInt64 >>> ((2 : Int32).toInt64.toUInt64 &&& Int64.toUInt64 63)).toInt64) &&& 3689348814741910323)).toUInt64 >>> ((4 : Int32).toInt64.toUInt64 &&& Int64.toUInt64 63)).toInt64)) &&& 1085102592571150095).toUInt64 >>> ((8 : Int32).toInt64.toUInt64 &&& Int64.toUInt64 63)).toInt64)).toUInt64 >>> ((16 : Int32).toInt64.toUInt64 &&& Int64.toUInt64 63)).toInt64)) + (((((((((L - (((L.toUInt64 >>> ((1 : Int32).toInt64.toUInt64 &&& Int64.toUInt64 63)).toInt64) &&& 6148914691236517205)) &&& 3689348814741910323) + ((((L - (((L.toUInt64 >>> ((1 : Int32).toInt64.toUInt64 &&& Int64.toUInt64 63)).toInt64) &&& 6148914691236517205)).toUInt64 >>> ((2 : Int32).toInt64.toUInt64 &&& Int64.toUInt64 63)).toInt64) &&& 3689348814741910323)) + (((((L - (((L.toUInt64 >>> ((1 : Int32).toInt64.toUInt64 &&& Int64.toUInt64 63)).toInt64) &&& 6148914691236517205)) &&& 3689348814741910323) + ((((L - (((L.toUInt64 >>> ((1 : Int32).toInt64.toUInt64 &&& Int64.toUInt64 63)).toInt64) &&& 6148914691236517205)).toUInt64 >>> ((2 : Int32).toInt64.toUInt64 &&& Int64.toUInt64 63)).toInt64) &&& 3689348814741910323)).toUInt64 >>> ((4 : Int32).toInt64.toUInt64 &&& Int64.toUInt64 63)).toInt64)) &&& 1085102592571150095) + (((((((L - (((L.toUInt64 >>> ((1 : Int32).toInt64.toUInt64 &&& Int64.toUInt64 63)).toInt64) &&& 6148914691236517205)) &&& 3689348814741910323) + ((((L - (((L.toUInt64 >>> ((1 : Int32).toInt64.toUInt64 &&& Int64.toUInt64 63)).toInt64) &&& 6148914691236517205)).toUInt64 >>> ((2 : Int32).toInt64.toUInt64 &&& Int64.toUInt64 63)).toInt64) &&& 3689348814741910323)) + (((((L - (((L.toUInt64 >>> ((1 : Int32).toInt64.toUInt64 &&& Int64.toUInt64 63)).toInt64) &&& 6148914691236517205)) &&& 3689348814741910323) + ((((L - (((L.toUInt64 >>> ((1 : Int32).toInt64.toUInt64 &&& Int64.toUInt64 63)).toInt64) &&& 6148914691236517205)).toUInt64 >>> ((2 : Int32).toInt64.toUInt64 &&& Int64.toUInt64 63)).toInt64) &&& 3689348814741910323)).toUInt64 >>> ((4 : Int32).toInt64.toUInt64 &&& Int64.toUInt64 63)).toInt64)) &&& 1085102592571150095).toUInt64 >>> ((8 : Int32).toInt64.toUInt64 &&& Int64.toUInt64 63)).toInt64)) + ((((((((L - (((L.toUInt64 >>> ((1 : Int32).toInt64.toUInt64 &&& Int64.toUInt64 63)).toInt64) &&& 6148914691236517205)) &&& 3689348814741910323) + ((((L - (((L.toUInt64 >>> ((1 : Int32).toInt64.toUInt64 &&& Int64.toUInt64 63)).toInt64) &&& 6148914691236517205)).toUInt64 >>> ((2 : Int32).toInt64.toUInt64 &&& Int64.toUInt64 63)).toInt64) &&& 3689348814741910323)) + (((((L - (((L.toUInt64 >>> ((1 : Int32).toInt64.toUInt64 &&& Int64.toUInt64 63)).toInt64) &&& 6148914691236517205)) &&& 3689348814741910323) + ((((L - (((L.toUInt64 >>> ((1 : Int32).toInt64.toUInt64 &&& Int64.toUInt64 63)).toInt64) &&& 6148914691236517205)).toUInt64 >>> ((2 : Int32).toInt64.toUInt64 &&& Int64.toUInt64 63)).toInt64) &&& 3689348814741910323)).toUInt64 >>> ((4 : Int32).toInt64.toUInt64 &&& Int64.toUInt64 63)).toInt64)) &&& 1085102592571150095) + (((((((L - (((L.toUInt64 >>> ((1 : Int32).toInt64.toUInt64 &&& Int64.toUInt64 63)).toInt64) &&& 6148914691236517205)) &&& 3689348814741910323) + ((((L - (((L.toUInt64 >>> ((1 : Int32).toInt64.toUInt64 &&& Int64.toUInt64 63)).toInt64) &&& 6148914691236517205)).toUInt64 >>> ((2 : Int32).toInt64.toUInt64 &&& Int64.toUInt64 63)).toInt64) &&& 3689348814741910323)) + (((((L - (((L.toUInt64 >>> ((1 : Int32).toInt64.toUInt64 &&& Int64.toUInt64 63)).toInt64) &&& 6148914691236517205)) &&& 3689348814741910323) + ((((L - (((L.toUInt64 >>> ((1 : Int32).toInt64.toUInt64 &&& Int64.toUInt64 63)).toInt64) &&& 6148914691236517205)).toUInt64 >>> ((2 : Int32).toInt64.toUInt64 &&& Int64.toUInt64 63)).toInt64) &&& 3689348814741910323)).toUInt64 >>> ((4 : Int32).toInt64.toUInt64 &&& Int64.toUInt64 63)).toInt64)) &&& 1085102592571150095).toUInt64 >>> ((8 : Int32).toInt64.toUInt64 &&& Int64.toUInt64 63)).toInt64)).toUInt64 >>> ((16 : Int32).toInt64.toUInt64 &&& Int64.toUInt64 63)).toInt64)).toUInt64 >>> ((32 : Int32).toInt64.toUInt64 &&& Int64.toUInt64 63)).toInt64)))]) hx hb dJ13_bitCount_95d88_54 rfl hl (by decide) rfl (fun ls hl => ?_)
  refine lv_lload_n hx hb dJ13_bitCount_95d88_55 rfl (lv_at hl 0 rfl) ?_
  refine lv_l2i (v := ((((((((L - (((L.toUInt64 >>> ((1 : Int32).toInt64.toUInt64 &&& Int64.toUInt64 63)).toInt64) &&& 6148914691236517205)) &&& 3689348814741910323) + ((((L - (((L.toUInt64 >>> ((1 : Int32).toInt64.toUInt64 &&& Int64.toUInt64 63)).toInt64) &&& 6148914691236517205)).toUInt64 >>> ((2 : Int32).toInt64.toUInt64 &&& Int64.toUInt64 63)).toInt64) &&& 3689348814741910323)) + (((((L - (((L.toUInt64 >>> ((1 : Int32).toInt64.toUInt64 &&& Int64.toUInt64 63)).toInt64) &&& 6148914691236517205)) &&& 3689348814741910323) + ((((L - (((L.toUInt64 >>> ((1 : Int32).toInt64.toUInt64 &&& Int64.toUInt64 63)).toInt64) &&& 6148914691236517205)).toUInt64 >>> ((2 : Int32).toInt64.toUInt64 &&& Int64.toUInt64 63)).toInt64) &&& 3689348814741910323)).toUInt64 >>> ((4 : Int32).toInt64.toUInt64 &&& Int64.toUInt64 63)).toInt64)) &&& 1085102592571150095) + (((((((L - (((L.toUInt64 >>> ((1 : Int32).toInt64.toUInt64 &&& Int64.toUInt64 63)).toInt64) &&& 6148914691236517205)) &&& 3689348814741910323) + ((((L - (((L.toUInt64 >>> ((1 : Int32).toInt64.toUInt64 &&& Int64.toUInt64 63)).toInt64) &&& 6148914691236517205)).toUInt64 >>> ((2 : Int32).toInt64.toUInt64 &&& Int64.toUInt64 63)).toInt64) &&& 3689348814741910323)) + (((((L - (((L.toUInt64 >>> ((1 : Int32).toInt64.toUInt64 &&& Int64.toUInt64 63)).toInt64) &&& 6148914691236517205)) &&& 3689348814741910323) + ((((L - (((L.toUInt64 >>> ((1 : Int32).toInt64.toUInt64 &&& Int64.toUInt64 63)).toInt64) &&& 6148914691236517205)).toUInt64 >>> ((2 : Int32).toInt64.toUInt64 &&& Int64.toUInt64 63)).toInt64) &&& 3689348814741910323)).toUInt64 >>> ((4 : Int32).toInt64.toUInt64 &&& Int64.toUInt64 63)).toInt64)) &&& 1085102592571150095).toUInt64 >>> ((8 : Int32).toInt64.toUInt64 &&& Int64.toUInt64 63)).toInt64)) + ((((((((L - (((L.toUInt64 >>> ((1 : Int32).toInt64.toUInt64 &&& Int64.toUInt64 63)).toInt64) &&& 6148914691236517205)) &&& 3689348814741910323) + ((((L - (((L.toUInt64 >>> ((1 : Int32).toInt64.toUInt64 &&& Int64.toUInt64 63)).toInt64) &&& 6148914691236517205)).toUInt64 >>> ((2 : Int32).toInt64.toUInt64 &&& Int64.toUInt64 63)).toInt64) &&& 3689348814741910323)) + (((((L - (((L.toUInt64 >>> ((1 : Int32).toInt64.toUInt64 &&& Int64.toUInt64 63)).toInt64) &&& 6148914691236517205)) &&& 3689348814741910323) + ((((L - (((L.toUInt64 >>> ((1 : Int32).toInt64.toUInt64 &&& Int64.toUInt64 63)).toInt64) &&& 6148914691236517205)).toUInt64 >>> ((2 : Int32).toInt64.toUInt64 &&& Int64.toUInt64 63)).toInt64) &&& 3689348814741910323)).toUInt64 >>> ((4 : Int32).toInt64.toUInt64 &&& Int64.toUInt64 63)).toInt64)) &&& 1085102592571150095) + (((((((L - (((L.toUInt64 >>> ((1 : Int32).toInt64.toUInt64 &&& Int64.toUInt64 63)).toInt64) &&& 6148914691236517205)) &&& 3689348814741910323) + ((((L - (((L.toUInt64 >>> ((1 : Int32).toInt64.toUInt64 &&& Int64.toUInt64 63)).toInt64) &&& 6148914691236517205)).toUInt64 >>> ((2 : Int32).toInt64.toUInt64 &&& Int64.toUInt64 63)).toInt64) &&& 3689348814741910323)) + (((((L - (((L.toUInt64 >>> ((1 : Int32).toInt64.toUInt64 &&& Int64.toUInt64 63)).toInt64) &&& 6148914691236517205)) &&& 3689348814741910323) + ((((L - (((L.toUInt64 >>> ((1 : Int32).toInt64.toUInt64 &&& Int64.toUInt64 63)).toInt64) &&& 6148914691236517205)).toUInt64 >>> ((2 : Int32).toInt64.toUInt64 &&& Int64.toUInt64 63)).toInt64) &&& 3689348814741910323)).toUInt64 >>> ((4 : Int32).toInt64.toUInt64 &&& Int64.toUInt64 63)).toInt64)) &&& 1085102592571150095).toUInt64 >>> ((8 : Int32).toInt64.toUInt64 &&& Int64.toUInt64 63)).toInt64)).toUInt64 >>> ((16 : Int32).toInt64.toUInt64 &&& Int64.toUInt64 63)).toInt64)) + (((((((((L - (((L.toUInt64 >>> ((1 : Int32).toInt64.toUInt64 &&& Int64.toUInt64 63)).toInt64) &&& 6148914691236517205)) &&& 3689348814741910323) + ((((L - (((L.toUInt64 >>> ((1 : Int32).toInt64.toUInt64 &&& Int64.toUInt64 63)).toInt64) &&& 6148914691236517205)).toUInt64 >>> ((2 : Int32).toInt64.toUInt64 &&& Int64.toUInt64 63)).toInt64) &&& 3689348814741910323)) + (((((L - (((L.toUInt64 >>> ((1 : Int32).toInt64.toUInt64 &&& Int64.toUInt64 63)).toInt64) &&& 6148914691236517205)) &&& 3689348814741910323) + ((((L - (((L.toUInt64 >>> ((1 : Int32).toInt64.toUInt64 &&& Int64.toUInt64 63)).toInt64) &&& 6148914691236517205)).toUInt64 >>> ((2 : Int32).toInt64.toUInt64 &&& Int64.toUInt64 63)).toInt64) &&& 3689348814741910323)).toUInt64 >>> ((4 : Int32).toInt64.toUInt64 &&& Int64.toUInt64 63)).toInt64)) &&& 1085102592571150095) + (((((((L - (((L.toUInt64 >>> ((1 : Int32).toInt64.toUInt64 &&& Int64.toUInt64 63)).toInt64) &&& 6148914691236517205)) &&& 3689348814741910323) + ((((L - (((L.toUInt64 >>> ((1 : Int32).toInt64.toUInt64 &&& Int64.toUInt64 63)).toInt64) &&& 6148914691236517205)).toUInt64 >>> ((2 : Int32).toInt64.toUInt64 &&& Int64.toUInt64 63)).toInt64) &&& 3689348814741910323)) + (((((L - (((L.toUInt64 >>> ((1 : Int32).toInt64.toUInt64 &&& Int64.toUInt64 63)).toInt64) &&& 6148914691236517205)) &&& 3689348814741910323) + ((((L - (((L.toUInt64 >>> ((1 : Int32).toInt64.toUInt64 &&& Int64.toUInt64 63)).toInt64) &&& 6148914691236517205)).toUInt64 >>> ((2 : Int32).toInt64.toUInt64 &&& Int64.toUInt64 63)).toInt64) &&& 3689348814741910323)).toUInt64 >>> ((4 : Int32).toInt64.toUInt64 &&& Int64.toUInt64 63)).toInt64)) &&& 1085102592571150095).toUInt64 >>> ((8 : Int32).toInt64.toUInt64 &&& Int64.toUInt64 63)).toInt64)) + ((((((((L - (((L.toUInt64 >>> ((1 : Int32).toInt64.toUInt64 &&& Int64.toUInt64 63)).toInt64) &&& 6148914691236517205)) &&& 3689348814741910323) + ((((L - (((L.toUInt64 >>> ((1 : Int32).toInt64.toUInt64 &&& Int64.toUInt64 63)).toInt64) &&& 6148914691236517205)).toUInt64 >>> ((2 : Int32).toInt64.toUInt64 &&& Int64.toUInt64 63)).toInt64) &&& 3689348814741910323)) + (((((L - (((L.toUInt64 >>> ((1 : Int32).toInt64.toUInt64 &&& Int64.toUInt64 63)).toInt64) &&& 6148914691236517205)) &&& 3689348814741910323) + ((((L - (((L.toUInt64 >>> ((1 : Int32).toInt64.toUInt64 &&& Int64.toUInt64 63)).toInt64) &&& 6148914691236517205)).toUInt64 >>> ((2 : Int32).toInt64.toUInt64 &&& Int64.toUInt64 63)).toInt64) &&& 3689348814741910323)).toUInt64 >>> ((4 : Int32).toInt64.toUInt64 &&& Int64.toUInt64 63)).toInt64)) &&& 1085102592571150095) + (((((((L - (((L.toUInt64 >>> ((1 : Int32).toInt64.toUInt64 &&& Int64.toUInt64 63)).toInt64) &&& 6148914691236517205)) &&& 3689348814741910323) + ((((L - (((L.toUInt64 >>> ((1 : Int32).toInt64.toUInt64 &&& Int64.toUInt64 63)).toInt64) &&& 6148914691236517205)).toUInt64 >>> ((2 : Int32).toInt64.toUInt64 &&& Int64.toUInt64 63)).toInt64) &&& 3689348814741910323)) + (((((L - (((L.toUInt64 >>> ((1 : Int32).toInt64.toUInt64 &&& Int64.toUInt64 63)).toInt64) &&& 6148914691236517205)) &&& 3689348814741910323) + ((((L - (((L.toUInt64 >>> ((1 : Int32).toInt64.toUInt64 &&& Int64.toUInt64 63)).toInt64) &&& 6148914691236517205)).toUInt64 >>> ((2 : Int32).toInt64.toUInt64 &&& Int64.toUInt64 63)).toInt64) &&& 3689348814741910323)).toUInt64 >>> ((4 : Int32).toInt64.toUInt64 &&& Int64.toUInt64 63)).toInt64)) &&& 1085102592571150095).toUInt64 >>> ((8 : Int32).toInt64.toUInt64 &&& Int64.toUInt64 63)).toInt64)).toUInt64 >>> ((16 : Int32).toInt64.toUInt64 &&& Int64.toUInt64 63)).toInt64)).toUInt64 >>> ((32 : Int32).toInt64.toUInt64 &&& Int64.toUInt64 63)).toInt64)).toInt32) hx hb dJ13_bitCount_95d88_56 rfl ?_
  refine lv_bipush (v := 127) hx hb dJ13_bitCount_95d88_57 (by decide) ?_
  refine lv_iand hx hb dJ13_bitCount_95d88_59 ?_
  exact g_iret hx hb hr hlk hS hZ hP hV (Nat.le_of_ble_eq_true rfl) (Nat.le_of_ble_eq_true rfl) dJ13_bitCount_95d88_60 (by rfl) (by rfl)
set_option maxHeartbeats 4000000 in
set_option maxRecDepth 100000 in
theorem c_X2_costOf (l : Launch) (x : Cx) (M : Nat → Nat → Int32) (cn gn dn : Nat) (pn : Nat → Nat) (L : Int64) (mo : Int32) (hO : OkO M cn gn dn pn) : Met l yX2_costOf wsX2_costOf ({ frames := 6, cells := 0, slots := 0, locals := 141 }) (gP x M [.ref (xa x 0), .long L, .int mo]) (gQ x (some (.int (coO M pn cn L mo gn))) M) 0 0 (gF x) := by
  refine g_met (cc := cX2_costOf) (maxL := 6) (ret := some .int) (by decide) rfl (Nat.le_of_ble_eq_true rfl) ?_
  intro p e s m below meth c hx hb hr hml hts hown hlk hS hZ hP hV ls hl
  have hl : lv_has ls 6 [(0, .ref (xa x 0)), (1, .long L), (3, .int mo)] := hl
  have hw_f41 := hts (.fieldLink RX2 41 "CableOffice" "groundCount" "I") (by decide +kernel)
  have hinX2 : ∀ w ∈ wsX20, w ∈ wsX2_costOf := by decide +kernel
  have hw_f37 := hts (.fieldLink RX2 37 "CableOffice" "grounds" "[LCableOffice$Ground;") (by decide +kernel)
  have hw_iX0 := hts (.initialized RX0) (by decide +kernel)
  have hw_imX0_price := hts (.instanceMethod yX0_price) (by decide +kernel)
  have hw_seX0_price := hts (.selects RX0 yX0_price yX0_price) (by decide +kernel)
  have hc8 := hO.c8
  have hg5 := hO.g5
  have hd8 := hO.d8
  refine lv_bipush (v := 10) hx hb dX2_costOf_0 (by decide) ?_
  refine lv_lload_n hx hb dX2_costOf_2 rfl (lv_at hl 1 rfl) ?_
  refine g_call1 (va_runS (As := [.long L]) (rest := [.int 10]) ⟨hx, hb, hml, hown, hts⟩ (c_J13_bitCount l x M L) (va_cwS 1 hts gX2_costOf_J13_bitCount_95d88 rfl rfl rfl (by decide +kernel) ⟨Nat.le_of_ble_eq_true rfl, Nat.le_of_ble_eq_true rfl⟩) (g_preS hS hZ hP hV [.long L]) rfl rfl hl.1 rfl (lv_room (Nat.le_of_ble_eq_true rfl)) dX2_costOf_3 ⟨Nat.le_of_ble_eq_true rfl, Nat.le_of_ble_eq_true rfl⟩) hV (fun H locs hP hV => ?_)
  refine lv_imul hx hb dX2_costOf_6 ?_
  refine lv_istore (lv' := [(4, .int (10 * (bcI L))), (0, .ref (xa x 0)), (1, .long L), (3, .int mo)]) hx hb dX2_costOf_7 hl (by decide) rfl (fun ls hl => ?_)
  refine lv_iconst (v := 0) hx hb dX2_costOf_9 (by decide) ?_
  refine lv_istore (lv' := [(5, .int 0), (4, .int (10 * (bcI L))), (0, .ref (xa x 0)), (1, .long L), (3, .int mo)]) hx hb dX2_costOf_10 hl (by decide) rfl (fun ls hl => ?_)
  have lp_12 : ∀ (nn g : Nat), gn - g < nn → g ≤ gn → ∀ (H : Heap) (locs : List Loc), va_P (xD x) vwCl (wAll x M) H → va_S (gF x) s.heap H locs → ∀ ls : Array Slot, lv_has ls 6 [(5, .int (nI g)), (4, .int (coO M pn cn L mo g)), (0, .ref (xa x 0)), (1, .long L), (3, .int mo)] → W p l e ({ frames := 6, cells := 0, slots := 0, locals := 141 }) s m ([.ref (xa x 0), .long L, .int mo] : List Value).toArray below meth c H locs 0 0 (MQ below (gQ x (some (.int (coO M pn cn L mo gn))) M) ([.ref (xa x 0), .long L, .int mo] : List Value).toArray s 0 0 (gF x)) (F0 m 12 ls []) := by
    intro nn
    induction nn with
    | zero => intro g hz; exact absurd hz (Nat.not_lt_zero _)
    | succ nn ih_12 =>
      intro g hf_12 hk_12  H locs hP hV ls hl
      refine lv_iload hx hb dX2_costOf_12 (lv_at hl 0 rfl) ?_
      refine lv_aload_n hx hb dX2_costOf_14 rfl (lv_at hl 2 rfl) ?_
      refine g_get (C := RX2) (T := TX2) (N := 9) (v := .int (nI gn)) hx hb hts hinX2 hown hS hP (id := 0) (by decide) rfl rfl 7 (by decide) hw_f41 (congrArg (fun z => some (Value.int z)) hO.g) dX2_costOf_15 ?_
      refine h_icmp_ge_n (a := g) (b := gn) (tgt := 58) hx hb (by omega) (by omega) dX2_costOf_18 (by decide) (fun c_1 => ?_) (fun c_1 => ?_)
      · -- taken
        refine lv_iload hx hb dX2_costOf_58 (lv_at hl 1 rfl) ?_
        exact g_iret hx hb hr hlk hS hZ hP hV (Nat.le_of_ble_eq_true rfl) (Nat.le_of_ble_eq_true rfl) dX2_costOf_60 (by rw [show g = gn by omega]) (by rfl)
      · -- on
        refine lv_aload_n hx hb dX2_costOf_21 rfl (lv_at hl 2 rfl) ?_
        refine lv_lload_n hx hb dX2_costOf_22 rfl (lv_at hl 3 rfl) ?_
        refine lv_aload_n hx hb dX2_costOf_23 rfl (lv_at hl 2 rfl) ?_
        refine g_get (C := RX2) (T := TX2) (N := 9) (v := .ref (xa x 5)) hx hb hts hinX2 hown hS hP (id := 0) (by decide) rfl rfl 6 (by decide) hw_f37 rfl dX2_costOf_24 ?_
        refine lv_iload hx hb dX2_costOf_27 (lv_at hl 0 rfl) ?_
        refine g_aaldG (j := g) hx hb hS hP rfl (by omega) dX2_costOf_29 ?_
        refine lv_iload_n hx hb dX2_costOf_30 rfl (lv_at hl 4 rfl) ?_
        refine g_call1 (va_runV (As := [.long L, .ref (xa x (6 + g)), .int mo]) (rest := []) ⟨hx, hb, hml, hown, hts⟩ (c_X2_isOwed l x M cn gn dn pn L g mo hO (by omega)) (cwV 3 hts gX2_costOf_X2_isOwed rfl rfl rfl (by decide +kernel) ⟨Nat.le_of_ble_eq_true rfl, Nat.le_of_ble_eq_true rfl⟩) (g_preV hS hZ hP hV [.long L, .ref (xa x (6 + g)), .int mo] (id := 0) (by decide) rfl rfl) rfl rfl hl.1 rfl (lv_room (Nat.le_of_ble_eq_true rfl)) dX2_costOf_31 ⟨Nat.le_of_ble_eq_true rfl, Nat.le_of_ble_eq_true rfl⟩) hV (fun H locs hP hV => ?_)
        refine h_if_eq_b (tgt := 52) hx hb dX2_costOf_34 (by decide) (fun c_2 => ?_) (fun c_2 => ?_)
        · -- taken
          refine lv_iinc (v := nI (g + 1)) (lv' := [(5, .int (nI (g + 1))), (4, .int (coO M pn cn L mo g)), (0, .ref (xa x 0)), (1, .long L), (3, .int mo)]) hx hb dX2_costOf_52 hl (k := 0) rfl (nI_add (g) 1) (by decide) rfl (fun ls hl => ?_)
          refine lv_goto (tgt := 12) hx hb dX2_costOf_55 (by decide) ?_
          exact ih_12 (g + 1) (by omega) (by omega)  _ _ hP hV ls (lv_sub hl [0, 1, 2, 3, 4] (show ([(5, .int (nI (g + 1))), (4, .int (coO M pn cn L mo g)), (0, .ref (xa x 0)), (1, .long L), (3, .int mo)] : List (Nat × Value)) = [(5, .int (nI (g + 1))), (4, .int (coO M pn cn L mo (g + 1))), (0, .ref (xa x 0)), (1, .long L), (3, .int mo)] from by simp [coO, c_1, c_2]))
        · -- on
          refine lv_iload hx hb dX2_costOf_37 (lv_at hl 1 rfl) ?_
          refine lv_aload_n hx hb dX2_costOf_39 rfl (lv_at hl 2 rfl) ?_
          refine g_get (C := RX2) (T := TX2) (N := 9) (v := .ref (xa x 5)) hx hb hts hinX2 hown hS hP (id := 0) (by decide) rfl rfl 6 (by decide) hw_f37 rfl dX2_costOf_40 ?_
          refine lv_iload hx hb dX2_costOf_43 (lv_at hl 0 rfl) ?_
          refine g_aaldG (j := g) hx hb hS hP rfl (by omega) dX2_costOf_45 ?_
          refine g_call1 (va_runVN (As := []) (rest := [.int (coO M pn cn L mo g)]) ⟨hx, hb, hml, hown, hts⟩ (c_X0_price l x M g (by omega)) ⟨va_cnB (host := RX2) 0 hts gX2_costOf_X0_price_n145 rfl rfl rfl (hS.2.2.2.2.1 _ (by decide +kernel)) hw_iX0 (by decide +kernel) ⟨Nat.le_of_ble_eq_true rfl, Nat.le_of_ble_eq_true rfl⟩, hw_imX0_price, hw_seX0_price⟩ (g_preV hS hZ hP hV [] (id := 6 + g) (by omega) (sh_g x _ (by omega)) rfl) rfl rfl hl.1 rfl (lv_room (Nat.le_of_ble_eq_true rfl)) dX2_costOf_46 ⟨Nat.le_of_ble_eq_true rfl, Nat.le_of_ble_eq_true rfl⟩) hV (fun H locs hP hV => ?_)
          refine lv_iadd hx hb dX2_costOf_49 ?_
          refine lv_istore (lv' := [(4, .int ((coO M pn cn L mo g) + (prO (M (6 + g) 6) (M (6 + g) 7)))), (5, .int (nI g)), (0, .ref (xa x 0)), (1, .long L), (3, .int mo)]) hx hb dX2_costOf_50 hl (by decide) rfl (fun ls hl => ?_)
          refine lv_iinc (v := nI (g + 1)) (lv' := [(5, .int (nI (g + 1))), (4, .int ((coO M pn cn L mo g) + (prO (M (6 + g) 6) (M (6 + g) 7)))), (0, .ref (xa x 0)), (1, .long L), (3, .int mo)]) hx hb dX2_costOf_52 hl (k := 1) rfl (nI_add (g) 1) (by decide) rfl (fun ls hl => ?_)
          refine lv_goto (tgt := 12) hx hb dX2_costOf_55 (by decide) ?_
          exact ih_12 (g + 1) (by omega) (by omega)  _ _ hP hV ls (lv_sub hl [0, 1, 2, 3, 4] (show ([(5, .int (nI (g + 1))), (4, .int ((coO M pn cn L mo g) + (prO (M (6 + g) 6) (M (6 + g) 7)))), (0, .ref (xa x 0)), (1, .long L), (3, .int mo)] : List (Nat × Value)) = [(5, .int (nI (g + 1))), (4, .int (coO M pn cn L mo (g + 1))), (0, .ref (xa x 0)), (1, .long L), (3, .int mo)] from by simp [coO, c_1, c_2]))
  exact lp_12 (gn - (0) + 1) (0) (by omega) (by omega)  _ _ hP hV ls (lv_sub hl [0, 1, 2, 3, 4] (show ([(5, .int 0), (4, .int (10 * (bcI L))), (0, .ref (xa x 0)), (1, .long L), (3, .int mo)] : List (Nat × Value)) = [(5, .int 0), (4, .int (coO M pn cn L mo 0)), (0, .ref (xa x 0)), (1, .long L), (3, .int mo)] from by rfl))
set_option maxHeartbeats 4000000 in
set_option maxRecDepth 100000 in
theorem c_X2_payGrounds (l : Launch) (x : Cx) (M : Nat → Nat → Int32) (cn gn dn : Nat) (pn : Nat → Nat) (L : Int64) (mo : Int32) (hO : OkO M cn gn dn pn) : Met l yX2_payGrounds wsX2_payGrounds ({ frames := 6, cells := 0, slots := 0, locals := 141 }) (gP x M [.ref (xa x 0), .long L, .int mo]) (gQ x none (pgM M pn cn L mo gn)) 0 0 (gF x) := by
  refine g_met (cc := cX2_payGrounds) (maxL := 5) (ret := none) (by decide) rfl (Nat.le_of_ble_eq_true rfl) ?_
  intro p e s m below meth c hx hb hr hml hts hown hlk hS hZ hP hV ls hl
  have hl : lv_has ls 5 [(0, .ref (xa x 0)), (1, .long L), (3, .int mo)] := hl
  have hw_f41 := hts (.fieldLink RX2 41 "CableOffice" "groundCount" "I") (by decide +kernel)
  have hinX2 : ∀ w ∈ wsX20, w ∈ wsX2_payGrounds := by decide +kernel
  have hw_f37 := hts (.fieldLink RX2 37 "CableOffice" "grounds" "[LCableOffice$Ground;") (by decide +kernel)
  have hinX0 : ∀ w ∈ wsX00, w ∈ wsX2_payGrounds := by decide +kernel
  have hw_iX0 := hts (.initialized RX0) (by decide +kernel)
  have hw_imX0_price := hts (.instanceMethod yX0_price) (by decide +kernel)
  have hw_seX0_price := hts (.selects RX0 yX0_price yX0_price) (by decide +kernel)
  have hc8 := hO.c8
  have hg5 := hO.g5
  have hd8 := hO.d8
  refine lv_iconst (v := 0) hx hb dX2_payGrounds_0 (by decide) ?_
  refine lv_istore (lv' := [(4, .int 0), (0, .ref (xa x 0)), (1, .long L), (3, .int mo)]) hx hb dX2_payGrounds_1 hl (by decide) rfl (fun ls hl => ?_)
  have lp_3 : ∀ (nn g : Nat), gn - g < nn → g ≤ gn → ∀ (H : Heap) (locs : List Loc), va_P (xD x) vwCl (wAll x (pgM M pn cn L mo g)) H → va_S (gF x) s.heap H locs → ∀ ls : Array Slot, lv_has ls 5 [(4, .int (nI g)), (0, .ref (xa x 0)), (1, .long L), (3, .int mo)] → W p l e ({ frames := 6, cells := 0, slots := 0, locals := 141 }) s m ([.ref (xa x 0), .long L, .int mo] : List Value).toArray below meth c H locs 0 0 (MQ below (gQ x none (pgM M pn cn L mo gn)) ([.ref (xa x 0), .long L, .int mo] : List Value).toArray s 0 0 (gF x)) (F0 m 3 ls []) := by
    intro nn
    induction nn with
    | zero => intro g hz; exact absurd hz (Nat.not_lt_zero _)
    | succ nn ih_3 =>
      intro g hf_3 hk_3  H locs hP hV ls hl
      have hOg : OkO (pgM M pn cn L mo g) cn gn dn pn := pgM_ok hO g hk_3
      refine lv_iload hx hb dX2_payGrounds_3 (lv_at hl 0 rfl) ?_
      refine lv_aload_n hx hb dX2_payGrounds_5 rfl (lv_at hl 1 rfl) ?_
      refine g_get (C := RX2) (T := TX2) (N := 9) (v := .int (nI gn)) hx hb hts hinX2 hown hS hP (id := 0) (by decide) rfl rfl 7 (by decide) hw_f41 (congrArg (fun z => some (Value.int z)) hOg.g) dX2_payGrounds_6 ?_
      refine h_icmp_ge_n (a := g) (b := gn) (tgt := 59) hx hb (by omega) (by omega) dX2_payGrounds_9 (by decide) (fun c_1 => ?_) (fun c_1 => ?_)
      · -- taken
        exact g_vret hx hb hr hlk hS hZ hP hV (Nat.le_of_ble_eq_true rfl) (Nat.le_of_ble_eq_true rfl) dX2_payGrounds_59 (by rw [show g = gn by omega])
      · -- on
        refine lv_aload_n hx hb dX2_payGrounds_12 rfl (lv_at hl 1 rfl) ?_
        refine lv_lload_n hx hb dX2_payGrounds_13 rfl (lv_at hl 2 rfl) ?_
        refine lv_aload_n hx hb dX2_payGrounds_14 rfl (lv_at hl 1 rfl) ?_
        refine g_get (C := RX2) (T := TX2) (N := 9) (v := .ref (xa x 5)) hx hb hts hinX2 hown hS hP (id := 0) (by decide) rfl rfl 6 (by decide) hw_f37 rfl dX2_payGrounds_15 ?_
        refine lv_iload hx hb dX2_payGrounds_18 (lv_at hl 0 rfl) ?_
        refine g_aaldG (j := g) hx hb hS hP rfl (by omega) dX2_payGrounds_20 ?_
        refine lv_iload_n hx hb dX2_payGrounds_21 rfl (lv_at hl 3 rfl) ?_
        refine g_call1 (va_runV (As := [.long L, .ref (xa x (6 + g)), .int mo]) (rest := []) ⟨hx, hb, hml, hown, hts⟩ (c_X2_isOwed l x (pgM M pn cn L mo g) cn gn dn pn L g mo hOg (by omega)) (cwV 3 hts gX2_payGrounds_X2_isOwed rfl rfl rfl (by decide +kernel) ⟨Nat.le_of_ble_eq_true rfl, Nat.le_of_ble_eq_true rfl⟩) (g_preV hS hZ hP hV [.long L, .ref (xa x (6 + g)), .int mo] (id := 0) (by decide) rfl rfl) rfl rfl hl.1 rfl (lv_room (Nat.le_of_ble_eq_true rfl)) dX2_payGrounds_22 ⟨Nat.le_of_ble_eq_true rfl, Nat.le_of_ble_eq_true rfl⟩) hV (fun H locs hP hV => ?_)
        refine h_if_eq_b (tgt := 53) hx hb dX2_payGrounds_25 (by decide) (fun c_2 => ?_) (fun c_2 => ?_)
        · -- taken
          refine lv_iinc (v := nI (g + 1)) (lv' := [(4, .int (nI (g + 1))), (0, .ref (xa x 0)), (1, .long L), (3, .int mo)]) hx hb dX2_payGrounds_53 hl (k := 0) rfl (nI_add (g) 1) (by decide) rfl (fun ls hl => ?_)
          refine lv_goto (tgt := 3) hx hb dX2_payGrounds_56 (by decide) ?_
          exact ih_3 (g + 1) (by omega) (by omega)  _ _ (show va_P (xD x) vwCl (wAll x (pgM M pn cn L mo (g + 1))) _ from by simp only [pgM, if_pos, if_neg, reduceCtorEq, if_false, c_1, c_2]; exact hP) hV ls (lv_sub hl [0, 1, 2, 3] rfl)
        · -- on
          refine lv_aload_n hx hb dX2_payGrounds_28 rfl (lv_at hl 1 rfl) ?_
          refine g_get (C := RX2) (T := TX2) (N := 9) (v := .ref (xa x 5)) hx hb hts hinX2 hown hS hP (id := 0) (by decide) rfl rfl 6 (by decide) hw_f37 rfl dX2_payGrounds_29 ?_
          refine lv_iload hx hb dX2_payGrounds_32 (lv_at hl 0 rfl) ?_
          refine g_aaldG (j := g) hx hb hS hP rfl (by omega) dX2_payGrounds_34 ?_
          refine lv_dup hx hb dX2_payGrounds_35 rfl ?_
          refine g_getN (C := RX0) (T := TX0) (N := 9) (host := RX2) (v := .int ((pgM M pn cn L mo g) (6 + g) 8)) hx hb hts hinX0 hown hS hP (id := 6 + g) (by omega) (sh_g x _ (by omega)) rfl 8 (by decide) (by decide +kernel) rfl dX2_payGrounds_36 ?_
          refine lv_aload_n hx hb dX2_payGrounds_39 rfl (lv_at hl 1 rfl) ?_
          refine g_get (C := RX2) (T := TX2) (N := 9) (v := .ref (xa x 5)) hx hb hts hinX2 hown hS hP (id := 0) (by decide) rfl rfl 6 (by decide) hw_f37 rfl dX2_payGrounds_40 ?_
          refine lv_iload hx hb dX2_payGrounds_43 (lv_at hl 0 rfl) ?_
          refine g_aaldG (j := g) hx hb hS hP rfl (by omega) dX2_payGrounds_45 ?_
          refine g_call1 (va_runVN (As := []) (rest := [.int ((pgM M pn cn L mo g) (6 + g) 8), .ref (xa x (6 + g))]) ⟨hx, hb, hml, hown, hts⟩ (c_X0_price l x (pgM M pn cn L mo g) g (by omega)) ⟨va_cnB (host := RX2) 0 hts gX2_payGrounds_X0_price_n145 rfl rfl rfl (hS.2.2.2.2.1 _ (by decide +kernel)) hw_iX0 (by decide +kernel) ⟨Nat.le_of_ble_eq_true rfl, Nat.le_of_ble_eq_true rfl⟩, hw_imX0_price, hw_seX0_price⟩ (g_preV hS hZ hP hV [] (id := 6 + g) (by omega) (sh_g x _ (by omega)) rfl) rfl rfl hl.1 rfl (lv_room (Nat.le_of_ble_eq_true rfl)) dX2_payGrounds_46 ⟨Nat.le_of_ble_eq_true rfl, Nat.le_of_ble_eq_true rfl⟩) hV (fun H locs hP hV => ?_)
          refine lv_iadd hx hb dX2_payGrounds_49 ?_
          refine g_putN (C := RX0) (T := TX0) (N := 9) (host := RX2) hx hb hts hinX0 tyX0 tyX0_ok nmX0 hown hS hP hV (id := 6 + g) (by omega) (sh_g x _ (by omega)) rfl 8 (by decide) (by decide +kernel) rfl (by decide +kernel) (Nat.le_of_ble_eq_true rfl) ((sh_g x _ (by omega)).trans rfl) dX2_payGrounds_50 (fun H locs hP hV => ?_)
          refine lv_iinc (v := nI (g + 1)) (lv' := [(4, .int (nI (g + 1))), (0, .ref (xa x 0)), (1, .long L), (3, .int mo)]) hx hb dX2_payGrounds_53 hl (k := 0) rfl (nI_add (g) 1) (by decide) rfl (fun ls hl => ?_)
          refine lv_goto (tgt := 3) hx hb dX2_payGrounds_56 (by decide) ?_
          exact ih_3 (g + 1) (by omega) (by omega)  _ _ (show va_P (xD x) vwCl (wAll x (pgM M pn cn L mo (g + 1))) _ from by simp only [pgM, if_pos, if_neg, reduceCtorEq, if_false, c_1, c_2]; exact hP) hV ls (lv_sub hl [0, 1, 2, 3] rfl)
  exact lp_3 (gn - (0) + 1) (0) (by omega) (by omega)  _ _ (show va_P (xD x) vwCl (wAll x (pgM M pn cn L mo 0)) _ from by exact hP) hV ls (lv_sub hl [0, 1, 2, 3] rfl)
