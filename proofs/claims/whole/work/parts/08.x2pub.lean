set_option maxHeartbeats 4000000 in
set_option maxRecDepth 100000 in
theorem c_X2_cables (l : Launch) (x : Cx) (M : Nat → Nat → Int32) (cn gn dn : Nat) (pn : Nat → Nat) (hO : OkO M cn gn dn pn) : Met l yX2_cables wsX2_cables ({ frames := 0, cells := 0, slots := 0, locals := 0 }) (gP x M [.ref (xa x 0)]) (gQ x (some (.int (nI cn))) M) 0 0 (gF x) := by
  refine g_met (cc := cX2_cables) (maxL := 1) (ret := some .int) (by decide) rfl (Nat.le_of_ble_eq_true rfl) ?_
  intro p e s m below meth c hx hb hr hml hts hown hlk hS hZ hP hV ls hl
  have hl : lv_has ls 1 [(0, .ref (xa x 0))] := hl
  have hw_f20 := hts (.fieldLink RX2 20 "CableOffice" "cableCount" "I") (by decide +kernel)
  have hinX2 : ∀ w ∈ wsX20, w ∈ wsX2_cables := by decide +kernel
  have hc8 := hO.c8
  have hg5 := hO.g5
  have hd8 := hO.d8
  refine lv_aload_n hx hb dX2_cables_0 rfl (lv_at hl 0 rfl) ?_
  refine g_get (C := RX2) (T := TX2) (N := 9) (v := .int (nI cn)) hx hb hts hinX2 hown hS hP (id := 0) (by decide) rfl rfl 2 (by decide) hw_f20 (congrArg (fun z => some (Value.int z)) hO.c) dX2_cables_1 ?_
  exact g_iret hx hb hr hlk hS hZ hP hV (Nat.le_of_ble_eq_true rfl) (Nat.le_of_ble_eq_true rfl) dX2_cables_4 (by rfl) (by rfl)
set_option maxHeartbeats 4000000 in
set_option maxRecDepth 100000 in
theorem c_X2_bare (l : Launch) (x : Cx) (M : Nat → Nat → Int32) (cn gn dn : Nat) (pn : Nat → Nat) (hO : OkO M cn gn dn pn) : Met l yX2_bare wsX2_bare ({ frames := 3, cells := 0, slots := 0, locals := 66 }) (gP x M [.ref (xa x 0)]) (gQ x (some (.int (nI (bpO M cn cn)))) M) 0 0 (gF x) := by
  refine g_met (cc := cX2_bare) (maxL := 1) (ret := some .int) (by decide) rfl (Nat.le_of_ble_eq_true rfl) ?_
  intro p e s m below meth c hx hb hr hml hts hown hlk hS hZ hP hV ls hl
  have hl : lv_has ls 1 [(0, .ref (xa x 0))] := hl
  have hc8 := hO.c8
  have hg5 := hO.g5
  have hd8 := hO.d8
  refine lv_aload_n hx hb dX2_bare_0 rfl (lv_at hl 0 rfl) ?_
  refine g_call1 (va_runV (As := []) (rest := []) ⟨hx, hb, hml, hown, hts⟩ (c_X2_countBarePairs l x M cn gn dn pn hO) (cwV 0 hts gX2_bare_X2_countBarePairs rfl rfl rfl (by decide +kernel) ⟨Nat.le_of_ble_eq_true rfl, Nat.le_of_ble_eq_true rfl⟩) (g_preV hS hZ hP hV [] (id := 0) (by decide) rfl rfl) rfl rfl hl.1 rfl (lv_room (Nat.le_of_ble_eq_true rfl)) dX2_bare_1 ⟨Nat.le_of_ble_eq_true rfl, Nat.le_of_ble_eq_true rfl⟩) hV (fun H locs hP hV => ?_)
  exact g_iret hx hb hr hlk hS hZ hP hV (Nat.le_of_ble_eq_true rfl) (Nat.le_of_ble_eq_true rfl) dX2_bare_4 (by rfl) (by rfl)
set_option maxHeartbeats 4000000 in
set_option maxRecDepth 100000 in
theorem c_X2_draft (l : Launch) (hlf : l.stackTraces = false) (x : Cx) (M : Nat → Nat → Int32) (cn gn dn : Nat) (pn : Nat → Nat) (px py : Int32) (hO : OkO M cn gn dn pn) : vx_Met l yX2_draft wsX2_draft ({ frames := 7, cells := 2, slots := 12, locals := 111 }) (gP x M [.ref (xa x 0), .int px, .int py]) (gQx x (erDr M dn px py) (some (.int (nI (dn + 1)))) (dfM M dn px py)) (gX x (erDr M dn px py) M) 2 12 (gF x) := by
  refine g_metx (cc := cX2_draft) (maxL := 3) (ret := some .int) (by decide) rfl (Nat.le_of_ble_eq_true rfl) ?_
  intro p e s m below meth c hx hb hr hml hts hown hlk ht hS hZ hP hV ls hl
  have hl : lv_has ls 3 [(0, .ref (xa x 0)), (1, .int px), (2, .int py)] := hl
  have hw_f10 := hts (.fieldLink RX2 10 "CableOffice" "draftRoute" "LCableOffice$Route;") (by decide +kernel)
  have hinX2 : ∀ w ∈ wsX20, w ∈ wsX2_draft := by decide +kernel
  have hinX1 : ∀ w ∈ wsX10, w ∈ wsX2_draft := by decide +kernel
  have hw_k59 := hts (.classLink RX2 59 "java/lang/IllegalStateException") (by decide +kernel)
  have hw_i59 := hts (.initialized "java/lang/IllegalStateException") (by decide +kernel)
  have hat63 := exc_hat (ic := 63) (E := eI) hS (by decide +kernel) exc_h2_63 (fun w hw => hts w (List.mem_cons_of_mem _ (List.mem_append_left _ (List.mem_append_right _ hw))))
  have hw_iX1 := hts (.initialized RX1) (by decide +kernel)
  have hw_imX1_isAt := hts (.instanceMethod yX1_isAt) (by decide +kernel)
  have hw_seX1_isAt := hts (.selects RX1 yX1_isAt yX1_isAt) (by decide +kernel)
  have hw_imX1_add := hts (.instanceMethod yX1_add) (by decide +kernel)
  have hw_seX1_add := hts (.selects RX1 yX1_add yX1_add) (by decide +kernel)
  have hc8 := hO.c8
  have hg5 := hO.g5
  have hd8 := hO.d8
  refine lv_iload_n hx hb dX2_draft_0 rfl (lv_at hl 1 rfl) ?_
  refine lv_iload_n hx hb dX2_draft_1 rfl (lv_at hl 2 rfl) ?_
  refine g_xcall0 (vx_runS (As := [.int px, .int py]) (rest := []) ⟨hx, hb, hml, hown, hts⟩ (c_X2_demandPlace l hlf x M px py) (va_cwS 2 hts gX2_draft_X2_demandPlace rfl rfl rfl (by decide +kernel) ⟨Nat.le_of_ble_eq_true rfl, Nat.le_of_ble_eq_true rfl⟩) (g_preS hS hZ hP hV [.int px, .int py]) rfl rfl hl.1 rfl (lv_room (Nat.le_of_ble_eq_true rfl)) dX2_draft_2 ⟨Nat.le_of_ble_eq_true rfl, Nat.le_of_ble_eq_true rfl⟩) hV (fun E ce q H locs hE hP hV h1 h2 h3 => g_xout ht hlk hS hZ (Nat.le_of_ble_eq_true rfl) (Nat.le_of_ble_eq_true rfl) (by simp [erDr, rX, rY, orE, hE]) rfl hP hV h1 h2 h3) (fun H locs x_1 hP hV => ?_)
  refine lv_aload_n hx hb dX2_draft_5 rfl (lv_at hl 0 rfl) ?_
  refine g_get (C := RX2) (T := TX2) (N := 9) (v := .ref (xa x (11 + 3 * 8))) hx hb hts hinX2 hown hS hP (id := 0) (by decide) rfl rfl 0 (by decide) hw_f10 rfl dX2_draft_6 ?_
  refine g_getN (C := RX1) (T := TX1) (N := 3) (host := RX2) (v := .int (nI dn)) hx hb hts hinX1 hown hS hP (id := 11 + 3 * 8) (by omega) (sh_r x _ (by omega)) rfl 2 (by decide) (by decide +kernel) (congrArg (fun z => some (Value.int z)) hO.d) dX2_draft_9 ?_
  refine lv_bipush (v := 8) hx hb dX2_draft_12 (by decide) ?_
  refine h_icmp_ge_n (a := dn) (b := 8) (tgt := 38) hx hb (by omega) (by omega) dX2_draft_14 (by decide) (fun c_2 => ?_) (fun c_2 => ?_)
  · -- taken
    exact g_throw (E := eI) (ik := 59) (is := 61) (ic := 63) (text := _) hx hb ht hlf hown (by decide +kernel) hw_k59 hw_i59 (List.mem_of_getElem? (i := 12) rfl) hat63 exc_ot_63 hlk hS hZ hP hV (hl.1.trans hml.symm) dX2_draft_38 dX2_draft_41 dX2_draft_42 dX2_draft_44 dX2_draft_47 (Nat.le_of_ble_eq_true rfl) (Nat.le_of_ble_eq_true rfl) (Nat.le_of_ble_eq_true rfl) (Nat.le_of_ble_eq_true rfl) (Nat.le_of_ble_eq_true rfl) (Nat.le_of_ble_eq_true rfl) (by simp [orE, erDr, rX, rY, x_1, c_2]) rfl
  · -- on
    refine lv_aload_n hx hb dX2_draft_17 rfl (lv_at hl 0 rfl) ?_
    refine g_get (C := RX2) (T := TX2) (N := 9) (v := .ref (xa x (11 + 3 * 8))) hx hb hts hinX2 hown hS hP (id := 0) (by decide) rfl rfl 0 (by decide) hw_f10 rfl dX2_draft_18 ?_
    refine lv_aload_n hx hb dX2_draft_21 rfl (lv_at hl 0 rfl) ?_
    refine g_get (C := RX2) (T := TX2) (N := 9) (v := .ref (xa x (11 + 3 * 8))) hx hb hts hinX2 hown hS hP (id := 0) (by decide) rfl rfl 0 (by decide) hw_f10 rfl dX2_draft_22 ?_
    refine g_getN (C := RX1) (T := TX1) (N := 3) (host := RX2) (v := .int (nI dn)) hx hb hts hinX1 hown hS hP (id := 11 + 3 * 8) (by omega) (sh_r x _ (by omega)) rfl 2 (by decide) (by decide +kernel) (congrArg (fun z => some (Value.int z)) hO.d) dX2_draft_25 ?_
    refine lv_iconst (v := 1) hx hb dX2_draft_28 (by decide) ?_
    refine lv_isub hx hb dX2_draft_29 ?_
    refine lv_iload_n hx hb dX2_draft_30 rfl (lv_at hl 1 rfl) ?_
    refine lv_iload_n hx hb dX2_draft_31 rfl (lv_at hl 2 rfl) ?_
    refine g_call1 (va_runVN (As := [.int (nI dn - 1), .int px, .int py]) (rest := []) ⟨hx, hb, hml, hown, hts⟩ (c_X1_isAt l x M 8 dn (nI dn - 1) px py (by omega) hO.d (by omega)) ⟨va_cnB (host := RX2) 3 hts gX2_draft_X1_isAt_n55 rfl rfl rfl (hS.2.2.2.2.1 _ (by decide +kernel)) hw_iX1 (by decide +kernel) ⟨Nat.le_of_ble_eq_true rfl, Nat.le_of_ble_eq_true rfl⟩, hw_imX1_isAt, hw_seX1_isAt⟩ (g_preV hS hZ hP hV [.int (nI dn - 1), .int px, .int py] (id := 11 + 3 * 8) (by omega) (sh_r x _ (by omega)) rfl) rfl rfl hl.1 rfl (lv_room (Nat.le_of_ble_eq_true rfl)) dX2_draft_32 ⟨Nat.le_of_ble_eq_true rfl, Nat.le_of_ble_eq_true rfl⟩) hV (fun H locs hP hV => ?_)
    refine h_if_eq_b (tgt := 48) hx hb dX2_draft_35 (by decide) (fun c_3 => ?_) (fun c_3 => ?_)
    · -- taken
      refine lv_aload_n hx hb dX2_draft_48 rfl (lv_at hl 0 rfl) ?_
      refine g_get (C := RX2) (T := TX2) (N := 9) (v := .ref (xa x (11 + 3 * 8))) hx hb hts hinX2 hown hS hP (id := 0) (by decide) rfl rfl 0 (by decide) hw_f10 rfl dX2_draft_49 ?_
      refine lv_iload_n hx hb dX2_draft_52 rfl (lv_at hl 1 rfl) ?_
      refine lv_iload_n hx hb dX2_draft_53 rfl (lv_at hl 2 rfl) ?_
      refine g_call0 (va_runVN (As := [.int px, .int py]) (rest := []) ⟨hx, hb, hml, hown, hts⟩ (c_X1_add l x M 8 dn px py (by omega) hO.d (by omega)) ⟨va_cnB (host := RX2) 2 hts gX2_draft_X1_add_n66 rfl rfl rfl (hS.2.2.2.2.1 _ (by decide +kernel)) hw_iX1 (by decide +kernel) ⟨Nat.le_of_ble_eq_true rfl, Nat.le_of_ble_eq_true rfl⟩, hw_imX1_add, hw_seX1_add⟩ (g_preV hS hZ hP hV [.int px, .int py] (id := 11 + 3 * 8) (by omega) (sh_r x _ (by omega)) rfl) rfl rfl hl.1 rfl (lv_room (Nat.le_of_ble_eq_true rfl)) dX2_draft_54 ⟨Nat.le_of_ble_eq_true rfl, Nat.le_of_ble_eq_true rfl⟩) hV (fun H locs hP hV => ?_)
      refine lv_aload_n hx hb dX2_draft_57 rfl (lv_at hl 0 rfl) ?_
      refine g_get (C := RX2) (T := TX2) (N := 9) (v := .ref (xa x (11 + 3 * 8))) hx hb hts hinX2 hown hS hP (id := 0) (by decide) rfl rfl 0 (by decide) hw_f10 rfl dX2_draft_58 ?_
      refine g_getN (C := RX1) (T := TX1) (N := 3) (host := RX2) (v := .int ((up2 (up2 (up2 M (11 + 3 * 8 + 1) dn px) (11 + 3 * 8 + 2) dn py) (11 + 3 * 8) 2 (nI (dn + 1))) (11 + 3 * 8) 2)) hx hb hts hinX1 hown hS hP (id := 11 + 3 * 8) (by omega) (sh_r x _ (by omega)) rfl 2 (by decide) (by decide +kernel) rfl dX2_draft_61 ?_
      refine g_mqx (by simp [orE, erDr, rX, rY, x_1, c_2, c_3]) ?_
      exact g_iret hx hb hr hlk hS hZ hP hV (Nat.le_of_ble_eq_true rfl) (Nat.le_of_ble_eq_true rfl) dX2_draft_64 (by rfl) (by rfl)
    · -- on
      exact g_throw (E := eI) (ik := 59) (is := 61) (ic := 63) (text := _) hx hb ht hlf hown (by decide +kernel) hw_k59 hw_i59 (List.mem_of_getElem? (i := 12) rfl) hat63 exc_ot_63 hlk hS hZ hP hV (hl.1.trans hml.symm) dX2_draft_38 dX2_draft_41 dX2_draft_42 dX2_draft_44 dX2_draft_47 (Nat.le_of_ble_eq_true rfl) (Nat.le_of_ble_eq_true rfl) (Nat.le_of_ble_eq_true rfl) (Nat.le_of_ble_eq_true rfl) (Nat.le_of_ble_eq_true rfl) (Nat.le_of_ble_eq_true rfl) (by simp [orE, erDr, rX, rY, x_1, c_2, c_3]) rfl
set_option maxHeartbeats 4000000 in
set_option maxRecDepth 100000 in
theorem c_X2_lay (l : Launch) (hlf : l.stackTraces = false) (x : Cx) (M : Nat → Nat → Int32) (cn gn dn : Nat) (pn : Nat → Nat)  (hO : OkO M cn gn dn pn) : vx_Met l yX2_lay wsX2_lay ({ frames := 6, cells := 1, slots := 6, locals := 140 }) (gP x M [.ref (xa x 0)]) (gQx x (erLay cn dn) (some (.int (nI cn))) (layR (layM M cn) (pnL pn cn dn) cn cn)) (gX x (erLay cn dn) M) 1 6 (gF x) := by
  refine g_metx (cc := cX2_lay) (maxL := 3) (ret := some .int) (by decide) rfl (Nat.le_of_ble_eq_true rfl) ?_
  intro p e s m below meth c hx hb hr hml hts hown hlk ht hS hZ hP hV ls hl
  have hl : lv_has ls 3 [(0, .ref (xa x 0))] := hl
  have hw_f10 := hts (.fieldLink RX2 10 "CableOffice" "draftRoute" "LCableOffice$Route;") (by decide +kernel)
  have hinX2 : ∀ w ∈ wsX20, w ∈ wsX2_lay := by decide +kernel
  have hinX1 : ∀ w ∈ wsX10, w ∈ wsX2_lay := by decide +kernel
  have hw_k59 := hts (.classLink RX2 59 "java/lang/IllegalStateException") (by decide +kernel)
  have hw_i59 := hts (.initialized "java/lang/IllegalStateException") (by decide +kernel)
  have hat63 := exc_hat (ic := 63) (E := eI) hS (by decide +kernel) exc_h2_63 (fun w hw => hts w (List.mem_cons_of_mem _ (List.mem_append_right _ hw)))
  have hw_f20 := hts (.fieldLink RX2 20 "CableOffice" "cableCount" "I") (by decide +kernel)
  have hw_f16 := hts (.fieldLink RX2 16 "CableOffice" "routes" "[LCableOffice$Route;") (by decide +kernel)
  have hw_iX1 := hts (.initialized RX1) (by decide +kernel)
  have hw_imX1_takeAllOf := hts (.instanceMethod yX1_takeAllOf) (by decide +kernel)
  have hw_seX1_takeAllOf := hts (.selects RX1 yX1_takeAllOf yX1_takeAllOf) (by decide +kernel)
  have hc8 := hO.c8
  have hg5 := hO.g5
  have hd8 := hO.d8
  refine lv_aload_n hx hb dX2_lay_0 rfl (lv_at hl 0 rfl) ?_
  refine g_get (C := RX2) (T := TX2) (N := 9) (v := .ref (xa x (11 + 3 * 8))) hx hb hts hinX2 hown hS hP (id := 0) (by decide) rfl rfl 0 (by decide) hw_f10 rfl dX2_lay_1 ?_
  refine g_getN (C := RX1) (T := TX1) (N := 3) (host := RX2) (v := .int (nI dn)) hx hb hts hinX1 hown hS hP (id := 11 + 3 * 8) (by omega) (sh_r x _ (by omega)) rfl 2 (by decide) (by decide +kernel) (congrArg (fun z => some (Value.int z)) hO.d) dX2_lay_4 ?_
  refine lv_iconst (v := 2) hx hb dX2_lay_7 (by decide) ?_
  refine h_icmp_lt_n (a := dn) (b := 2) (tgt := 20) hx hb (by omega) (by omega) dX2_lay_8 (by decide) (fun c_1 => ?_) (fun c_1 => ?_)
  · -- taken
    exact g_throw (E := eI) (ik := 59) (is := 69) (ic := 63) (text := _) hx hb ht hlf hown (by decide +kernel) hw_k59 hw_i59 (List.mem_of_getElem? (i := 13) rfl) hat63 exc_ot_63 hlk hS hZ hP hV (hl.1.trans hml.symm) dX2_lay_20 dX2_lay_23 dX2_lay_24 dX2_lay_26 dX2_lay_29 (Nat.le_of_ble_eq_true rfl) (Nat.le_of_ble_eq_true rfl) (Nat.le_of_ble_eq_true rfl) (Nat.le_of_ble_eq_true rfl) (Nat.le_of_ble_eq_true rfl) (Nat.le_of_ble_eq_true rfl) (by simp [orE, erLay, c_1]) rfl
  · -- on
    refine lv_aload_n hx hb dX2_lay_11 rfl (lv_at hl 0 rfl) ?_
    refine g_get (C := RX2) (T := TX2) (N := 9) (v := .int (nI cn)) hx hb hts hinX2 hown hS hP (id := 0) (by decide) rfl rfl 2 (by decide) hw_f20 (congrArg (fun z => some (Value.int z)) hO.c) dX2_lay_12 ?_
    refine lv_bipush (v := 8) hx hb dX2_lay_15 (by decide) ?_
    refine h_icmp_lt_n (a := cn) (b := 8) (tgt := 30) hx hb (by omega) (by omega) dX2_lay_17 (by decide) (fun c_2 => ?_) (fun c_2 => ?_)
    · -- taken
      refine lv_aload_n hx hb dX2_lay_30 rfl (lv_at hl 0 rfl) ?_
      refine g_get (C := RX2) (T := TX2) (N := 9) (v := .int (nI cn)) hx hb hts hinX2 hown hS hP (id := 0) (by decide) rfl rfl 2 (by decide) hw_f20 (congrArg (fun z => some (Value.int z)) hO.c) dX2_lay_31 ?_
      refine lv_istore_n (lv' := [(1, .int (nI cn)), (0, .ref (xa x 0))]) hx hb dX2_lay_34 rfl hl (by decide) rfl (fun ls hl => ?_)
      refine lv_aload_n hx hb dX2_lay_35 rfl (lv_at hl 1 rfl) ?_
      refine g_get (C := RX2) (T := TX2) (N := 9) (v := .ref (xa x 1)) hx hb hts hinX2 hown hS hP (id := 0) (by decide) rfl rfl 1 (by decide) hw_f16 rfl dX2_lay_36 ?_
      refine lv_iload_n hx hb dX2_lay_39 rfl (lv_at hl 0 rfl) ?_
      refine g_aaldR (j := cn) hx hb hS hP rfl (by omega) dX2_lay_40 ?_
      refine lv_aload_n hx hb dX2_lay_41 rfl (lv_at hl 1 rfl) ?_
      refine g_get (C := RX2) (T := TX2) (N := 9) (v := .ref (xa x (11 + 3 * 8))) hx hb hts hinX2 hown hS hP (id := 0) (by decide) rfl rfl 0 (by decide) hw_f10 rfl dX2_lay_42 ?_
      refine g_call0 (va_runVN (As := [.ref (xa x (11 + 3 * 8))]) (rest := []) ⟨hx, hb, hml, hown, hts⟩ (c_X1_takeAllOf l x M cn 8 (by omega) (by omega)) ⟨va_cnB (host := RX2) 1 hts gX2_lay_X1_takeAllOf_n71 rfl rfl rfl (hS.2.2.2.2.1 _ (by decide +kernel)) hw_iX1 (by decide +kernel) ⟨Nat.le_of_ble_eq_true rfl, Nat.le_of_ble_eq_true rfl⟩, hw_imX1_takeAllOf, hw_seX1_takeAllOf⟩ (g_preV hS hZ hP hV [.ref (xa x (11 + 3 * 8))] (id := 11 + 3 * cn) (by omega) (sh_r x _ (by omega)) rfl) rfl rfl hl.1 rfl (lv_room (Nat.le_of_ble_eq_true rfl)) dX2_lay_45 ⟨Nat.le_of_ble_eq_true rfl, Nat.le_of_ble_eq_true rfl⟩) hV (fun H locs hP hV => ?_)
      refine lv_aload_n hx hb dX2_lay_48 rfl (lv_at hl 1 rfl) ?_
      refine g_get (C := RX2) (T := TX2) (N := 9) (v := .ref (xa x (11 + 3 * 8))) hx hb hts hinX2 hown hS hP (id := 0) (by decide) rfl rfl 0 (by decide) hw_f10 rfl dX2_lay_49 ?_
      refine lv_iconst (v := 0) hx hb dX2_lay_52 (by decide) ?_
      refine g_putN (C := RX1) (T := TX1) (N := 3) (host := RX2) hx hb hts hinX1 tyX1 tyX1_ok nmX1 hown hS hP hV (id := 11 + 3 * 8) (by omega) (sh_r x _ (by omega)) rfl 2 (by decide) (by decide +kernel) rfl (by decide +kernel) (Nat.le_of_ble_eq_true rfl) ((sh_r x _ (by omega)).trans rfl) dX2_lay_53 (fun H locs hP hV => ?_)
      have hc2 : up2 (takeM M cn 8) (11 + 3 * 8) 2 0 0 2 = nI cn := by rw [up2_ne _ _ _ (by omega), takeM_ne (by omega) (by omega) (by omega)]; exact hO.c
      refine lv_aload_n hx hb dX2_lay_56 rfl (lv_at hl 1 rfl) ?_
      refine lv_dup hx hb dX2_lay_57 rfl ?_
      refine g_get (C := RX2) (T := TX2) (N := 9) (v := .int (nI cn)) hx hb hts hinX2 hown hS hP (id := 0) (by decide) rfl rfl 2 (by decide) hw_f20 (congrArg (fun z => some (Value.int z)) (show _ = nI cn from hc2)) dX2_lay_58 ?_
      refine lv_iconst (v := 1) hx hb dX2_lay_61 (by decide) ?_
      refine h_iadd (v := nI (cn + 1)) hx hb dX2_lay_62 (nI_add (cn) (1)) ?_
      refine g_put (C := RX2) (T := TX2) (N := 9) hx hb hts hinX2 tyX2 tyX2_ok nmX2 hown hS hP hV (id := 0) (by decide) rfl rfl 2 (by decide) hw_f20 rfl (by decide +kernel) (Nat.le_of_ble_eq_true rfl) rfl dX2_lay_63 (fun H locs hP hV => ?_)
      have hOl : OkO (layM M cn) (cn + 1) gn 0 (pnL pn cn dn) := layM_ok hO (by omega) (by omega)
      refine lv_iconst (v := 0) hx hb dX2_lay_66 (by decide) ?_
      refine lv_istore_n (lv' := [(2, .int 0), (1, .int (nI cn)), (0, .ref (xa x 0))]) hx hb dX2_lay_67 rfl hl (by decide) rfl (fun ls hl => ?_)
      have lp_68 : ∀ (nn k : Nat), cn - k < nn → k ≤ cn → ∀ (H : Heap) (locs : List Loc), va_P (xD x) vwCl (wAll x (layR (layM M cn) (pnL pn cn dn) cn k)) H → va_S (gF x) s.heap H locs → ∀ ls : Array Slot, lv_has ls 3 [(2, .int (nI k)), (0, .ref (xa x 0)), (1, .int (nI cn))] → W p l e ({ frames := 6, cells := 1, slots := 6, locals := 140 }) s m ([.ref (xa x 0)] : List Value).toArray below meth c H locs 0 0 (vx_MQ below (gQx x (erLay cn dn) (some (.int (nI cn))) (layR (layM M cn) (pnL pn cn dn) cn cn)) (gX x (erLay cn dn) M) ([.ref (xa x 0)] : List Value).toArray s 1 6 (gF x)) (F0 m 68 ls []) := by
        intro nn
        induction nn with
        | zero => intro k hz; exact absurd hz (Nat.not_lt_zero _)
        | succ nn ih_68 =>
          intro k hf_68 hk_68  H locs hP hV ls hl
          have hOk : OkO (layR (layM M cn) (pnL pn cn dn) cn k) (cn + 1) gn 0 (pnL pn cn dn) := layR_ok hOl k
          refine lv_iload_n hx hb dX2_lay_68 rfl (lv_at hl 0 rfl) ?_
          refine lv_iload_n hx hb dX2_lay_69 rfl (lv_at hl 2 rfl) ?_
          refine h_icmp_ge_n (a := k) (b := cn) (tgt := 85) hx hb (by omega) (by omega) dX2_lay_70 (by decide) (fun c_3 => ?_) (fun c_3 => ?_)
          · -- taken
            refine lv_iload_n hx hb dX2_lay_85 rfl (lv_at hl 2 rfl) ?_
            refine g_mqx (by simp [orE, erLay, c_1, c_2, c_3]) ?_
            exact g_iret hx hb hr hlk hS hZ hP hV (Nat.le_of_ble_eq_true rfl) (Nat.le_of_ble_eq_true rfl) dX2_lay_86 (by rfl) (by rw [show k = cn by omega])
          · -- on
            refine lv_aload_n hx hb dX2_lay_73 rfl (lv_at hl 1 rfl) ?_
            refine lv_iload_n hx hb dX2_lay_74 rfl (lv_at hl 2 rfl) ?_
            refine lv_iload_n hx hb dX2_lay_75 rfl (lv_at hl 0 rfl) ?_
            refine g_call0 (va_runV (As := [.int (nI cn), .int (nI k)]) (rest := []) ⟨hx, hb, hml, hown, hts⟩ (c_X2_recount l x (layR (layM M cn) (pnL pn cn dn) cn k) (cn + 1) gn 0 (pnL pn cn dn) cn k hOk (by omega) (by omega)) (cwV 2 hts gX2_lay_X2_recount rfl rfl rfl (by decide +kernel) ⟨Nat.le_of_ble_eq_true rfl, Nat.le_of_ble_eq_true rfl⟩) (g_preV hS hZ hP hV [.int (nI cn), .int (nI k)] (id := 0) (by decide) rfl rfl) rfl rfl hl.1 rfl (lv_room (Nat.le_of_ble_eq_true rfl)) dX2_lay_76 ⟨Nat.le_of_ble_eq_true rfl, Nat.le_of_ble_eq_true rfl⟩) hV (fun H locs hP hV => ?_)
            refine lv_iinc (v := nI (k + 1)) (lv' := [(2, .int (nI (k + 1))), (0, .ref (xa x 0)), (1, .int (nI cn))]) hx hb dX2_lay_79 hl (k := 0) rfl (nI_add (k) 1) (by decide) rfl (fun ls hl => ?_)
            refine lv_goto (tgt := 68) hx hb dX2_lay_82 (by decide) ?_
            exact ih_68 (k + 1) (by omega) (by omega)  _ _ (show va_P (xD x) vwCl (wAll x (layR (layM M cn) (pnL pn cn dn) cn (k + 1))) _ from by exact hP) hV ls (lv_sub hl [0, 1, 2] rfl)
      exact lp_68 (cn - (0) + 1) (0) (by omega) (by omega)  _ _ (show va_P (xD x) vwCl (wAll x (layR (layM M cn) (pnL pn cn dn) cn 0)) _ from by exact hP) hV ls (lv_sub hl [0, 2, 1] rfl)
    · -- on
      exact g_throw (E := eI) (ik := 59) (is := 69) (ic := 63) (text := _) hx hb ht hlf hown (by decide +kernel) hw_k59 hw_i59 (List.mem_of_getElem? (i := 13) rfl) hat63 exc_ot_63 hlk hS hZ hP hV (hl.1.trans hml.symm) dX2_lay_20 dX2_lay_23 dX2_lay_24 dX2_lay_26 dX2_lay_29 (Nat.le_of_ble_eq_true rfl) (Nat.le_of_ble_eq_true rfl) (Nat.le_of_ble_eq_true rfl) (Nat.le_of_ble_eq_true rfl) (Nat.le_of_ble_eq_true rfl) (Nat.le_of_ble_eq_true rfl) (by simp [orE, erLay, c_1, c_2]) rfl
set_option maxHeartbeats 4000000 in
set_option maxRecDepth 100000 in
theorem c_X2_move (l : Launch) (hlf : l.stackTraces = false) (x : Cx) (M : Nat → Nat → Int32) (cn gn dn : Nat) (pn : Nat → Nat) (a q px py : Int32) (hO : OkO M cn gn dn pn) : vx_Met l yX2_move wsX2_move ({ frames := 8, cells := 4, slots := 24, locals := 140 }) (gP x M [.ref (xa x 0), .int a, .int q, .int px, .int py]) (gQx x (erMv M cn pn a q px py) (some (.int (mvC (mv0 M (tn a) (tn q) px py) pn (tn a) cn))) (mvM (mv0 M (tn a) (tn q) px py) pn (tn a) cn)) (gX x (erMv M cn pn a q px py) M) 4 24 (gF x) := by
  refine g_metx (cc := cX2_move) (maxL := 8) (ret := some .int) (by decide) rfl (Nat.le_of_ble_eq_true rfl) ?_
  intro p e s m below meth c hx hb hr hml hts hown hlk ht hS hZ hP hV ls hl
  have hl : lv_has ls 8 [(0, .ref (xa x 0)), (1, .int a), (2, .int q), (3, .int px), (4, .int py)] := hl
  have hw_f16 := hts (.fieldLink RX2 16 "CableOffice" "routes" "[LCableOffice$Route;") (by decide +kernel)
  have hinX2 : ∀ w ∈ wsX20, w ∈ wsX2_move := by decide +kernel
  have hw_iX1 := hts (.initialized RX1) (by decide +kernel)
  have hw_imX1_isAt := hts (.instanceMethod yX1_isAt) (by decide +kernel)
  have hw_seX1_isAt := hts (.selects RX1 yX1_isAt yX1_isAt) (by decide +kernel)
  have hw_k59 := hts (.classLink RX2 59 "java/lang/IllegalStateException") (by decide +kernel)
  have hw_i59 := hts (.initialized "java/lang/IllegalStateException") (by decide +kernel)
  have hat63 := exc_hat (ic := 63) (E := eI) hS (by decide +kernel) exc_h2_63 (fun w hw => hts w (List.mem_cons_of_mem _ (List.mem_append_left _ (List.mem_append_left _ (List.mem_append_right _ hw)))))
  have hinX1 : ∀ w ∈ wsX10, w ∈ wsX2_move := by decide +kernel
  have hw_f20 := hts (.fieldLink RX2 20 "CableOffice" "cableCount" "I") (by decide +kernel)
  have hc8 := hO.c8
  have hg5 := hO.g5
  have hd8 := hO.d8
  refine lv_aload_n hx hb dX2_move_0 rfl (lv_at hl 0 rfl) ?_
  refine lv_iload_n hx hb dX2_move_1 rfl (lv_at hl 1 rfl) ?_
  refine lv_iload_n hx hb dX2_move_2 rfl (lv_at hl 2 rfl) ?_
  refine g_xcall0 (vx_runV (As := [.int a, .int q]) (rest := []) ⟨hx, hb, hml, hown, hts⟩ (c_X2_demandPoint l hlf x M cn gn dn pn a q hO) (cwV 2 hts gX2_move_X2_demandPoint rfl rfl rfl (by decide +kernel) ⟨Nat.le_of_ble_eq_true rfl, Nat.le_of_ble_eq_true rfl⟩) (g_preV hS hZ hP hV [.int a, .int q] (id := 0) (by decide) rfl rfl) rfl rfl hl.1 rfl (lv_room (Nat.le_of_ble_eq_true rfl)) dX2_move_3 ⟨Nat.le_of_ble_eq_true rfl, Nat.le_of_ble_eq_true rfl⟩) hV (fun E ce q H locs hE hP hV h1 h2 h3 => g_xout ht hlk hS hZ (Nat.le_of_ble_eq_true rfl) (Nat.le_of_ble_eq_true rfl) (by simp [erMv, rX, rY, orE, hE]) rfl hP hV h1 h2 h3) (fun H locs x_1 hP hV => ?_)
  obtain ⟨j, k, hj, ea, hk, eb⟩ := erPt_none hO.c8 (fun i hi => hO.p7 hi) x_1
  rw [ea, eb] at hl
  have h7j := hO.p7 hj
  refine lv_iload_n hx hb dX2_move_6 rfl (lv_at hl 3 rfl) ?_
  refine lv_iload hx hb dX2_move_7 (lv_at hl 4 rfl) ?_
  refine g_xcall0 (vx_runS (As := [.int px, .int py]) (rest := []) ⟨hx, hb, hml, hown, hts⟩ (c_X2_demandPlace l hlf x M px py) (va_cwS 2 hts gX2_move_X2_demandPlace rfl rfl rfl (by decide +kernel) ⟨Nat.le_of_ble_eq_true rfl, Nat.le_of_ble_eq_true rfl⟩) (g_preS hS hZ hP hV [.int px, .int py]) rfl rfl hl.1 rfl (lv_room (Nat.le_of_ble_eq_true rfl)) dX2_move_9 ⟨Nat.le_of_ble_eq_true rfl, Nat.le_of_ble_eq_true rfl⟩) hV (fun E ce q H locs hE hP hV h1 h2 h3 => g_xout ht hlk hS hZ (Nat.le_of_ble_eq_true rfl) (Nat.le_of_ble_eq_true rfl) (by simp [erMv, rX, rY, orE, hE, x_1]) rfl hP hV h1 h2 h3) (fun H locs x_2 hP hV => ?_)
  refine lv_aload_n hx hb dX2_move_12 rfl (lv_at hl 0 rfl) ?_
  refine g_get (C := RX2) (T := TX2) (N := 9) (v := .ref (xa x 1)) hx hb hts hinX2 hown hS hP (id := 0) (by decide) rfl rfl 1 (by decide) hw_f16 rfl dX2_move_13 ?_
  refine lv_iload_n hx hb dX2_move_16 rfl (lv_at hl 1 rfl) ?_
  refine g_aaldR (j := j) hx hb hS hP rfl (by omega) dX2_move_17 ?_
  refine lv_astore (lv' := [(5, .ref (xa x (11 + 3 * j))), (0, .ref (xa x 0)), (1, .int (nI j)), (2, .int (nI k)), (3, .int px), (4, .int py)]) hx hb dX2_move_18 hl (by decide) rfl (fun ls hl => ?_)
  refine lv_aload hx hb dX2_move_20 (lv_at hl 0 rfl) ?_
  refine lv_iload_n hx hb dX2_move_22 rfl (lv_at hl 3 rfl) ?_
  refine lv_iconst (v := 1) hx hb dX2_move_23 (by decide) ?_
  refine lv_isub hx hb dX2_move_24 ?_
  refine lv_iload_n hx hb dX2_move_25 rfl (lv_at hl 4 rfl) ?_
  refine lv_iload hx hb dX2_move_26 (lv_at hl 5 rfl) ?_
  refine g_call1 (va_runVN (As := [.int (nI k - 1), .int px, .int py]) (rest := []) ⟨hx, hb, hml, hown, hts⟩ (c_X1_isAt l x M j (pn j + 1) (nI k - 1) px py (by omega) (hO.p (by omega)) (by omega)) ⟨va_cnB (host := RX2) 3 hts gX2_move_X1_isAt_n55 rfl rfl rfl (hS.2.2.2.2.1 _ (by decide +kernel)) hw_iX1 (by decide +kernel) ⟨Nat.le_of_ble_eq_true rfl, Nat.le_of_ble_eq_true rfl⟩, hw_imX1_isAt, hw_seX1_isAt⟩ (g_preV hS hZ hP hV [.int (nI k - 1), .int px, .int py] (id := 11 + 3 * j) (by omega) (sh_r x _ (by omega)) rfl) rfl rfl hl.1 rfl (lv_room (Nat.le_of_ble_eq_true rfl)) dX2_move_28 ⟨Nat.le_of_ble_eq_true rfl, Nat.le_of_ble_eq_true rfl⟩) hV (fun H locs hP hV => ?_)
  refine h_if_ne_b (tgt := 48) hx hb dX2_move_31 (by decide) (fun c_3 => ?_) (fun c_3 => ?_)
  · -- taken
    exact g_throw (E := eI) (ik := 59) (is := 81) (ic := 63) (text := _) hx hb ht hlf hown (by decide +kernel) hw_k59 hw_i59 (List.mem_of_getElem? (i := 14) rfl) hat63 exc_ot_63 hlk hS hZ hP hV (hl.1.trans hml.symm) dX2_move_48 dX2_move_51 dX2_move_52 dX2_move_54 dX2_move_57 (Nat.le_of_ble_eq_true rfl) (Nat.le_of_ble_eq_true rfl) (Nat.le_of_ble_eq_true rfl) (Nat.le_of_ble_eq_true rfl) (Nat.le_of_ble_eq_true rfl) (Nat.le_of_ble_eq_true rfl) (by subst ea; subst eb; simp [orE, erMv, rX, rY, x_1, x_2, c_3, tn_nI (show j < 2 ^ 31 by omega), tn_nI (show k < 2 ^ 31 by omega), nI_1]) rfl
  · -- on
    refine lv_aload hx hb dX2_move_34 (lv_at hl 0 rfl) ?_
    refine lv_iload_n hx hb dX2_move_36 rfl (lv_at hl 3 rfl) ?_
    refine lv_iconst (v := 1) hx hb dX2_move_37 (by decide) ?_
    refine h_iadd (v := nI (k + 1)) hx hb dX2_move_38 (nI_add (k) (1)) ?_
    refine lv_iload_n hx hb dX2_move_39 rfl (lv_at hl 4 rfl) ?_
    refine lv_iload hx hb dX2_move_40 (lv_at hl 5 rfl) ?_
    refine g_call1 (va_runVN (As := [.int (nI (k + 1)), .int px, .int py]) (rest := []) ⟨hx, hb, hml, hown, hts⟩ (c_X1_isAt l x M j (pn j + 1) (nI (k + 1)) px py (by omega) (hO.p (by omega)) (by omega)) ⟨va_cnB (host := RX2) 3 hts gX2_move_X1_isAt_n55 rfl rfl rfl (hS.2.2.2.2.1 _ (by decide +kernel)) hw_iX1 (by decide +kernel) ⟨Nat.le_of_ble_eq_true rfl, Nat.le_of_ble_eq_true rfl⟩, hw_imX1_isAt, hw_seX1_isAt⟩ (g_preV hS hZ hP hV [.int (nI (k + 1)), .int px, .int py] (id := 11 + 3 * j) (by omega) (sh_r x _ (by omega)) rfl) rfl rfl hl.1 rfl (lv_room (Nat.le_of_ble_eq_true rfl)) dX2_move_42 ⟨Nat.le_of_ble_eq_true rfl, Nat.le_of_ble_eq_true rfl⟩) hV (fun H locs hP hV => ?_)
    refine h_if_eq_b (tgt := 58) hx hb dX2_move_45 (by decide) (fun c_4 => ?_) (fun c_4 => ?_)
    · -- taken
      refine lv_aload hx hb dX2_move_58 (lv_at hl 0 rfl) ?_
      refine g_getN (C := RX1) (T := TX1) (N := 3) (host := RX2) (v := .ref (xa x (11 + 3 * j + 1))) hx hb hts hinX1 hown hS hP (id := 11 + 3 * j) (by omega) (sh_r x _ (by omega)) rfl 0 (by decide) (by decide +kernel) rfl dX2_move_60 ?_
      refine lv_iload_n hx hb dX2_move_63 rfl (lv_at hl 3 rfl) ?_
      refine lv_iload_n hx hb dX2_move_64 rfl (lv_at hl 4 rfl) ?_
      refine g_iast (j := k) hx hb hS hP hV (id := 11 + 3 * j + 1) (by omega) (fun r => sh_x x r (by omega)) (by decide) rfl (by omega) dX2_move_65 (fun H locs hP hV => ?_)
      refine lv_aload hx hb dX2_move_66 (lv_at hl 0 rfl) ?_
      refine g_getN (C := RX1) (T := TX1) (N := 3) (host := RX2) (v := .ref (xa x (11 + 3 * j + 2))) hx hb hts hinX1 hown hS hP (id := 11 + 3 * j) (by omega) (sh_r x _ (by omega)) rfl 1 (by decide) (by decide +kernel) rfl dX2_move_68 ?_
      refine lv_iload_n hx hb dX2_move_71 rfl (lv_at hl 3 rfl) ?_
      refine lv_iload hx hb dX2_move_72 (lv_at hl 5 rfl) ?_
      refine g_iast (j := k) hx hb hS hP hV (id := 11 + 3 * j + 2) (by omega) (fun r => sh_y x r (by omega)) (by decide) rfl (by omega) dX2_move_74 (fun H locs hP hV => ?_)
      have hO2 : OkO (mv0 M j k px py) cn gn dn pn := hO.upXY (by omega)
      refine lv_iconst (v := 0) hx hb dX2_move_75 (by decide) ?_
      refine lv_istore (lv' := [(6, .int 0), (5, .ref (xa x (11 + 3 * j))), (0, .ref (xa x 0)), (1, .int (nI j)), (2, .int (nI k)), (3, .int px), (4, .int py)]) hx hb dX2_move_76 hl (by decide) rfl (fun ls hl => ?_)
      refine lv_iconst (v := 0) hx hb dX2_move_78 (by decide) ?_
      refine lv_istore (lv' := [(7, .int 0), (6, .int 0), (5, .ref (xa x (11 + 3 * j))), (0, .ref (xa x 0)), (1, .int (nI j)), (2, .int (nI k)), (3, .int px), (4, .int py)]) hx hb dX2_move_79 hl (by decide) rfl (fun ls hl => ?_)
      have lp_81 : ∀ (nn t : Nat), cn - t < nn → t ≤ cn → ∀ (H : Heap) (locs : List Loc), va_P (xD x) vwCl (wAll x (mvM (mv0 M j k px py) pn j t)) H → va_S (gF x) s.heap H locs → ∀ ls : Array Slot, lv_has ls 8 [(7, .int (nI t)), (6, .int (mvC (mv0 M j k px py) pn j t)), (0, .ref (xa x 0)), (1, .int (nI j)), (2, .int (nI k))] → W p l e ({ frames := 8, cells := 4, slots := 24, locals := 140 }) s m ([.ref (xa x 0), .int a, .int q, .int px, .int py] : List Value).toArray below meth c H locs 3 18 (vx_MQ below (gQx x (erMv M cn pn a q px py) (some (.int (mvC (mv0 M (tn a) (tn q) px py) pn (tn a) cn))) (mvM (mv0 M (tn a) (tn q) px py) pn (tn a) cn)) (gX x (erMv M cn pn a q px py) M) ([.ref (xa x 0), .int a, .int q, .int px, .int py] : List Value).toArray s 4 24 (gF x)) (F0 m 81 ls []) := by
        intro nn
        induction nn with
        | zero => intro t hz; exact absurd hz (Nat.not_lt_zero _)
        | succ nn ih_81 =>
          intro t hf_81 hk_81  H locs hP hV ls hl
          have hOt : OkO (mvM (mv0 M j k px py) pn j t) cn gn dn pn := mvM_ok hO2 t
          refine lv_iload hx hb dX2_move_81 (lv_at hl 0 rfl) ?_
          refine lv_aload_n hx hb dX2_move_83 rfl (lv_at hl 2 rfl) ?_
          refine g_get (C := RX2) (T := TX2) (N := 9) (v := .int (nI cn)) hx hb hts hinX2 hown hS hP (id := 0) (by decide) rfl rfl 2 (by decide) hw_f20 (congrArg (fun z => some (Value.int z)) hOt.c) dX2_move_84 ?_
          refine h_icmp_ge_n (a := t) (b := cn) (tgt := 121) hx hb (by omega) (by omega) dX2_move_87 (by decide) (fun c_5 => ?_) (fun c_5 => ?_)
          · -- taken
            refine lv_iload hx hb dX2_move_121 (lv_at hl 1 rfl) ?_
            refine g_mqx (by subst ea; subst eb; simp [orE, erMv, rX, rY, x_1, x_2, c_3, c_4, c_5, tn_nI (show j < 2 ^ 31 by omega), tn_nI (show k < 2 ^ 31 by omega), nI_1]) ?_
            exact g_iret hx hb hr hlk hS hZ hP hV (Nat.le_of_ble_eq_true rfl) (Nat.le_of_ble_eq_true rfl) dX2_move_123 (by subst ea; subst eb; rw [tn_nI (show j < 2 ^ 31 by omega), tn_nI (show k < 2 ^ 31 by omega), show t = cn by omega]) (by subst ea; subst eb; rw [tn_nI (show j < 2 ^ 31 by omega), tn_nI (show k < 2 ^ 31 by omega), show t = cn by omega])
          · -- on
            refine lv_iload hx hb dX2_move_90 (lv_at hl 0 rfl) ?_
            refine lv_iload_n hx hb dX2_move_92 rfl (lv_at hl 3 rfl) ?_
            refine h_icmp_eq_n (a := t) (b := j) (tgt := 115) hx hb (by omega) (by omega) dX2_move_93 (by decide) (fun c_6 => ?_) (fun c_6 => ?_)
            · -- taken
              refine lv_iinc (v := nI (t + 1)) (lv' := [(7, .int (nI (t + 1))), (6, .int (mvC (mv0 M j k px py) pn j t)), (0, .ref (xa x 0)), (1, .int (nI j)), (2, .int (nI k))]) hx hb dX2_move_115 hl (k := 0) rfl (nI_add (t) 1) (by decide) rfl (fun ls hl => ?_)
              refine lv_goto (tgt := 81) hx hb dX2_move_118 (by decide) ?_
              exact ih_81 (t + 1) (by omega) (by omega)  _ _ (show va_P (xD x) vwCl (wAll x (mvM (mv0 M j k px py) pn j (t + 1))) _ from by rw [show mvM (mv0 M j k px py) pn j (t + 1) = mvM (mv0 M j k px py) pn j t from by simp [mvM, x_1, x_2, c_3, c_4, c_5, c_6]]; exact hP) hV ls (lv_sub hl [0, 1, 2, 3, 4] (show ([(7, .int (nI (t + 1))), (6, .int (mvC (mv0 M j k px py) pn j t)), (0, .ref (xa x 0)), (1, .int (nI j)), (2, .int (nI k))] : List (Nat × Value)) = [(7, .int (nI (t + 1))), (6, .int (mvC (mv0 M j k px py) pn j (t + 1))), (0, .ref (xa x 0)), (1, .int (nI j)), (2, .int (nI k))] from by simp [mvC, x_1, x_2, c_3, c_4, c_5, c_6]))
            · -- on
              refine lv_aload_n hx hb dX2_move_96 rfl (lv_at hl 2 rfl) ?_
              refine lv_iload_n hx hb dX2_move_97 rfl (lv_at hl 3 rfl) ?_
              refine lv_iload hx hb dX2_move_98 (lv_at hl 0 rfl) ?_
              refine g_call0 (va_runV (As := [.int (nI j), .int (nI t)]) (rest := []) ⟨hx, hb, hml, hown, hts⟩ (c_X2_recount l x (mvM (mv0 M j k px py) pn j t) cn gn dn pn j t hOt (by omega) (by omega)) (cwV 2 hts gX2_move_X2_recount rfl rfl rfl (by decide +kernel) ⟨Nat.le_of_ble_eq_true rfl, Nat.le_of_ble_eq_true rfl⟩) (g_preV hS hZ hP hV [.int (nI j), .int (nI t)] (id := 0) (by decide) rfl rfl) rfl rfl hl.1 rfl (lv_room (Nat.le_of_ble_eq_true rfl)) dX2_move_100 ⟨Nat.le_of_ble_eq_true rfl, Nat.le_of_ble_eq_true rfl⟩) hV (fun H locs hP hV => ?_)
              have hO3 : OkO (recM (mvM (mv0 M j k px py) pn j t) pn j t) cn gn dn pn := recM_ok hOt
              refine lv_iload hx hb dX2_move_103 (lv_at hl 1 rfl) ?_
              refine lv_aload_n hx hb dX2_move_105 rfl (lv_at hl 2 rfl) ?_
              refine lv_iload_n hx hb dX2_move_106 rfl (lv_at hl 3 rfl) ?_
              refine lv_iload hx hb dX2_move_107 (lv_at hl 0 rfl) ?_
              refine g_call1 (va_runV (As := [.int (nI j), .int (nI t)]) (rest := [.int (mvC (mv0 M j k px py) pn j t)]) ⟨hx, hb, hml, hown, hts⟩ (c_X2_dropIfNotWell l x (recM (mvM (mv0 M j k px py) pn j t) pn j t) j t (by omega) (by omega)) (cwV 2 hts gX2_move_X2_dropIfNotWell rfl rfl rfl (by decide +kernel) ⟨Nat.le_of_ble_eq_true rfl, Nat.le_of_ble_eq_true rfl⟩) (g_preV hS hZ hP hV [.int (nI j), .int (nI t)] (id := 0) (by decide) rfl rfl) rfl rfl hl.1 rfl (lv_room (Nat.le_of_ble_eq_true rfl)) dX2_move_109 ⟨Nat.le_of_ble_eq_true rfl, Nat.le_of_ble_eq_true rfl⟩) hV (fun H locs hP hV => ?_)
              refine lv_iadd hx hb dX2_move_112 ?_
              refine lv_istore (lv' := [(6, .int ((mvC (mv0 M j k px py) pn j t) + (if drO (recM (mvM (mv0 M j k px py) pn j t) pn j t) j t = true then 1 else 0))), (7, .int (nI t)), (0, .ref (xa x 0)), (1, .int (nI j)), (2, .int (nI k))]) hx hb dX2_move_113 hl (by decide) rfl (fun ls hl => ?_)
              refine lv_iinc (v := nI (t + 1)) (lv' := [(7, .int (nI (t + 1))), (6, .int ((mvC (mv0 M j k px py) pn j t) + (if drO (recM (mvM (mv0 M j k px py) pn j t) pn j t) j t = true then 1 else 0))), (0, .ref (xa x 0)), (1, .int (nI j)), (2, .int (nI k))]) hx hb dX2_move_115 hl (k := 1) rfl (nI_add (t) 1) (by decide) rfl (fun ls hl => ?_)
              refine lv_goto (tgt := 81) hx hb dX2_move_118 (by decide) ?_
              exact ih_81 (t + 1) (by omega) (by omega)  _ _ (show va_P (xD x) vwCl (wAll x (mvM (mv0 M j k px py) pn j (t + 1))) _ from by rw [show mvM (mv0 M j k px py) pn j (t + 1) = if drO (recM (mvM (mv0 M j k px py) pn j t) pn j t) j t = true then up2 (recM (mvM (mv0 M j k px py) pn j t) pn j t) 4 (pr j t) 0 else (recM (mvM (mv0 M j k px py) pn j t) pn j t) from by simp [mvM, x_1, x_2, c_3, c_4, c_5, c_6]]; exact hP) hV ls (lv_sub hl [0, 1, 2, 3, 4] (show ([(7, .int (nI (t + 1))), (6, .int ((mvC (mv0 M j k px py) pn j t) + (if drO (recM (mvM (mv0 M j k px py) pn j t) pn j t) j t = true then 1 else 0))), (0, .ref (xa x 0)), (1, .int (nI j)), (2, .int (nI k))] : List (Nat × Value)) = [(7, .int (nI (t + 1))), (6, .int (mvC (mv0 M j k px py) pn j (t + 1))), (0, .ref (xa x 0)), (1, .int (nI j)), (2, .int (nI k))] from by simp [mvC, x_1, x_2, c_3, c_4, c_5, c_6]))
      exact lp_81 (cn - (0) + 1) (0) (by omega) (by omega)  _ _ (show va_P (xD x) vwCl (wAll x (mvM (mv0 M j k px py) pn j 0)) _ from by exact hP) hV ls (lv_sub hl [0, 1, 3, 4, 5] (show ([(7, .int 0), (6, .int 0), (0, .ref (xa x 0)), (1, .int (nI j)), (2, .int (nI k))] : List (Nat × Value)) = [(7, .int 0), (6, .int (mvC (mv0 M j k px py) pn j 0)), (0, .ref (xa x 0)), (1, .int (nI j)), (2, .int (nI k))] from by rfl))
    · -- on
      exact g_throw (E := eI) (ik := 59) (is := 81) (ic := 63) (text := _) hx hb ht hlf hown (by decide +kernel) hw_k59 hw_i59 (List.mem_of_getElem? (i := 14) rfl) hat63 exc_ot_63 hlk hS hZ hP hV (hl.1.trans hml.symm) dX2_move_48 dX2_move_51 dX2_move_52 dX2_move_54 dX2_move_57 (Nat.le_of_ble_eq_true rfl) (Nat.le_of_ble_eq_true rfl) (Nat.le_of_ble_eq_true rfl) (Nat.le_of_ble_eq_true rfl) (Nat.le_of_ble_eq_true rfl) (Nat.le_of_ble_eq_true rfl) (by subst ea; subst eb; simp [orE, erMv, rX, rY, x_1, x_2, c_3, c_4, tn_nI (show j < 2 ^ 31 by omega), tn_nI (show k < 2 ^ 31 by omega), nI_1]) rfl
set_option maxHeartbeats 4000000 in
set_option maxRecDepth 100000 in
theorem c_X2_crossings (l : Launch) (hlf : l.stackTraces = false) (x : Cx) (M : Nat → Nat → Int32) (cn gn dn : Nat) (pn : Nat → Nat) (a b : Int32) (hO : OkO M cn gn dn pn) : vx_Met l yX2_crossings wsX2_crossings ({ frames := 8, cells := 2, slots := 12, locals := 133 }) (gP x M [.ref (xa x 0), .int a, .int b]) (gQx x (erCC cn a b) (some (.int (M 2 (pr (tn a) (tn b))))) M) (gX x (erCC cn a b) M) 2 12 (gF x) := by
  refine g_metx (cc := cX2_crossings) (maxL := 3) (ret := some .int) (by decide) rfl (Nat.le_of_ble_eq_true rfl) ?_
  intro p e s m below meth c hx hb hr hml hts hown hlk ht hS hZ hP hV ls hl
  have hl : lv_has ls 3 [(0, .ref (xa x 0)), (1, .int a), (2, .int b)] := hl
  have hw_f24 := hts (.fieldLink RX2 24 "CableOffice" "crossed" "[I") (by decide +kernel)
  have hinX2 : ∀ w ∈ wsX20, w ∈ wsX2_crossings := by decide +kernel
  have hc8 := hO.c8
  have hg5 := hO.g5
  have hd8 := hO.d8
  refine lv_aload_n hx hb dX2_crossings_0 rfl (lv_at hl 0 rfl) ?_
  refine lv_iload_n hx hb dX2_crossings_1 rfl (lv_at hl 1 rfl) ?_
  refine lv_iload_n hx hb dX2_crossings_2 rfl (lv_at hl 2 rfl) ?_
  refine g_xcall0 (vx_runV (As := [.int a, .int b]) (rest := []) ⟨hx, hb, hml, hown, hts⟩ (c_X2_demandCables l hlf x M cn gn dn pn a b hO) (cwV 2 hts gX2_crossings_X2_demandCables rfl rfl rfl (by decide +kernel) ⟨Nat.le_of_ble_eq_true rfl, Nat.le_of_ble_eq_true rfl⟩) (g_preV hS hZ hP hV [.int a, .int b] (id := 0) (by decide) rfl rfl) rfl rfl hl.1 rfl (lv_room (Nat.le_of_ble_eq_true rfl)) dX2_crossings_3 ⟨Nat.le_of_ble_eq_true rfl, Nat.le_of_ble_eq_true rfl⟩) hV (fun E ce q H locs hE hP hV h1 h2 h3 => g_xout ht hlk hS hZ (Nat.le_of_ble_eq_true rfl) (Nat.le_of_ble_eq_true rfl) (by exact hE) rfl hP hV h1 h2 h3) (fun H locs x_1 hP hV => ?_)
  obtain ⟨j, k, hj, ea, hk, eb⟩ := erCC_none hO.c8 x_1
  rw [ea, eb] at hl
  have hp64 := pr_lt (show j < 8 by omega) (show k < 8 by omega)
  have h7j := hO.p7 hj
  have h7k := hO.p7 hk
  refine lv_aload_n hx hb dX2_crossings_6 rfl (lv_at hl 0 rfl) ?_
  refine g_get (C := RX2) (T := TX2) (N := 9) (v := .ref (xa x 2)) hx hb hts hinX2 hown hS hP (id := 0) (by decide) rfl rfl 3 (by decide) hw_f24 rfl dX2_crossings_7 ?_
  refine lv_iload_n hx hb dX2_crossings_10 rfl (lv_at hl 1 rfl) ?_
  refine lv_iload_n hx hb dX2_crossings_11 rfl (lv_at hl 2 rfl) ?_
  refine g_call1 (va_runS (As := [.int (nI j), .int (nI k)]) (rest := [.ref (xa x 2)]) ⟨hx, hb, hml, hown, hts⟩ (c_X2_pairOf l x M j k (by omega) (by omega)) (va_cwS 2 hts gX2_crossings_X2_pairOf rfl rfl rfl (by decide +kernel) ⟨Nat.le_of_ble_eq_true rfl, Nat.le_of_ble_eq_true rfl⟩) (g_preS hS hZ hP hV [.int (nI j), .int (nI k)]) rfl rfl hl.1 rfl (lv_room (Nat.le_of_ble_eq_true rfl)) dX2_crossings_12 ⟨Nat.le_of_ble_eq_true rfl, Nat.le_of_ble_eq_true rfl⟩) hV (fun H locs hP hV => ?_)
  refine g_iald (j := pr j k) hx hb hS hP (id := 2) (by omega) ((fun _ => rfl) _) (by decide) rfl (by omega) dX2_crossings_15 ?_
  refine g_mqx (by assumption) ?_
  exact g_iret hx hb hr hlk hS hZ hP hV (Nat.le_of_ble_eq_true rfl) (Nat.le_of_ble_eq_true rfl) dX2_crossings_16 (by subst ea; subst eb; simp [bI, x_1, tn_nI (show j < 2 ^ 31 by omega), tn_nI (show k < 2 ^ 31 by omega)]) (by rfl)
set_option maxHeartbeats 4000000 in
set_option maxRecDepth 100000 in
theorem c_X2_crossingsAnew (l : Launch) (hlf : l.stackTraces = false) (x : Cx) (M : Nat → Nat → Int32) (cn gn dn : Nat) (pn : Nat → Nat) (a b : Int32) (hO : OkO M cn gn dn pn) : vx_Met l yX2_crossingsAnew wsX2_crossingsAnew ({ frames := 8, cells := 2, slots := 12, locals := 133 }) (gP x M [.ref (xa x 0), .int a, .int b]) (gQx x (erCC cn a b) (some (.int (if tn a = tn b then 0 else nI (cnX false M pn (tn a) (tn b))))) M) (gX x (erCC cn a b) M) 2 12 (gF x) := by
  refine g_metx (cc := cX2_crossingsAnew) (maxL := 3) (ret := some .int) (by decide) rfl (Nat.le_of_ble_eq_true rfl) ?_
  intro p e s m below meth c hx hb hr hml hts hown hlk ht hS hZ hP hV ls hl
  have hl : lv_has ls 3 [(0, .ref (xa x 0)), (1, .int a), (2, .int b)] := hl
  have hw_f16 := hts (.fieldLink RX2 16 "CableOffice" "routes" "[LCableOffice$Route;") (by decide +kernel)
  have hinX2 : ∀ w ∈ wsX20, w ∈ wsX2_crossingsAnew := by decide +kernel
  have hc8 := hO.c8
  have hg5 := hO.g5
  have hd8 := hO.d8
  refine lv_aload_n hx hb dX2_crossingsAnew_0 rfl (lv_at hl 0 rfl) ?_
  refine lv_iload_n hx hb dX2_crossingsAnew_1 rfl (lv_at hl 1 rfl) ?_
  refine lv_iload_n hx hb dX2_crossingsAnew_2 rfl (lv_at hl 2 rfl) ?_
  refine g_xcall0 (vx_runV (As := [.int a, .int b]) (rest := []) ⟨hx, hb, hml, hown, hts⟩ (c_X2_demandCables l hlf x M cn gn dn pn a b hO) (cwV 2 hts gX2_crossingsAnew_X2_demandCables rfl rfl rfl (by decide +kernel) ⟨Nat.le_of_ble_eq_true rfl, Nat.le_of_ble_eq_true rfl⟩) (g_preV hS hZ hP hV [.int a, .int b] (id := 0) (by decide) rfl rfl) rfl rfl hl.1 rfl (lv_room (Nat.le_of_ble_eq_true rfl)) dX2_crossingsAnew_3 ⟨Nat.le_of_ble_eq_true rfl, Nat.le_of_ble_eq_true rfl⟩) hV (fun E ce q H locs hE hP hV h1 h2 h3 => g_xout ht hlk hS hZ (Nat.le_of_ble_eq_true rfl) (Nat.le_of_ble_eq_true rfl) (by exact hE) rfl hP hV h1 h2 h3) (fun H locs x_1 hP hV => ?_)
  obtain ⟨j, k, hj, ea, hk, eb⟩ := erCC_none hO.c8 x_1
  rw [ea, eb] at hl
  have hp64 := pr_lt (show j < 8 by omega) (show k < 8 by omega)
  have h7j := hO.p7 hj
  have h7k := hO.p7 hk
  refine lv_iload_n hx hb dX2_crossingsAnew_6 rfl (lv_at hl 1 rfl) ?_
  refine lv_iload_n hx hb dX2_crossingsAnew_7 rfl (lv_at hl 2 rfl) ?_
  refine h_icmp_ne_n (a := j) (b := k) (tgt := 15) hx hb (by omega) (by omega) dX2_crossingsAnew_8 (by decide) (fun c_2 => ?_) (fun c_2 => ?_)
  · -- taken
    refine lv_aload_n hx hb dX2_crossingsAnew_15 rfl (lv_at hl 0 rfl) ?_
    refine g_get (C := RX2) (T := TX2) (N := 9) (v := .ref (xa x 1)) hx hb hts hinX2 hown hS hP (id := 0) (by decide) rfl rfl 1 (by decide) hw_f16 rfl dX2_crossingsAnew_16 ?_
    refine lv_iload_n hx hb dX2_crossingsAnew_19 rfl (lv_at hl 1 rfl) ?_
    refine g_aaldR (j := j) hx hb hS hP rfl (by omega) dX2_crossingsAnew_20 ?_
    refine lv_aload_n hx hb dX2_crossingsAnew_21 rfl (lv_at hl 0 rfl) ?_
    refine g_get (C := RX2) (T := TX2) (N := 9) (v := .ref (xa x 1)) hx hb hts hinX2 hown hS hP (id := 0) (by decide) rfl rfl 1 (by decide) hw_f16 rfl dX2_crossingsAnew_22 ?_
    refine lv_iload_n hx hb dX2_crossingsAnew_25 rfl (lv_at hl 2 rfl) ?_
    refine g_aaldR (j := k) hx hb hS hP rfl (by omega) dX2_crossingsAnew_26 ?_
    refine lv_iconst (v := 0) hx hb dX2_crossingsAnew_27 (by decide) ?_
    refine g_call1 (va_runS (As := [.ref (xa x (11 + 3 * j)), .ref (xa x (11 + 3 * k)), .int 0]) (rest := []) ⟨hx, hb, hml, hown, hts⟩ (c_X2_countCrossings l x M j k (pn j) (pn k) false (by omega) (by omega) (hO.p (by omega)) (hO.p (by omega)) (by omega) (by omega)) (va_cwS 3 hts gX2_crossingsAnew_X2_countCrossings rfl rfl rfl (by decide +kernel) ⟨Nat.le_of_ble_eq_true rfl, Nat.le_of_ble_eq_true rfl⟩) (g_preS hS hZ hP hV [.ref (xa x (11 + 3 * j)), .ref (xa x (11 + 3 * k)), .int 0]) rfl rfl hl.1 rfl (lv_room (Nat.le_of_ble_eq_true rfl)) dX2_crossingsAnew_28 ⟨Nat.le_of_ble_eq_true rfl, Nat.le_of_ble_eq_true rfl⟩) hV (fun H locs hP hV => ?_)
    refine g_mqx (by assumption) ?_
    exact g_iret hx hb hr hlk hS hZ hP hV (Nat.le_of_ble_eq_true rfl) (Nat.le_of_ble_eq_true rfl) dX2_crossingsAnew_31 (by subst ea; subst eb; simp [cnX, rX, rY, bI, x_1, c_2, tn_nI (show j < 2 ^ 31 by omega), tn_nI (show k < 2 ^ 31 by omega)]) (by rfl)
  · -- on
    refine lv_iconst (v := 0) hx hb dX2_crossingsAnew_11 (by decide) ?_
    refine lv_goto (tgt := 31) hx hb dX2_crossingsAnew_12 (by decide) ?_
    refine g_mqx (by assumption) ?_
    exact g_iret hx hb hr hlk hS hZ hP hV (Nat.le_of_ble_eq_true rfl) (Nat.le_of_ble_eq_true rfl) dX2_crossingsAnew_31 (by subst ea; subst eb; simp [cnX, rX, rY, bI, x_1, c_2, tn_nI (show j < 2 ^ 31 by omega), tn_nI (show k < 2 ^ 31 by omega)]) (by rfl)
set_option maxHeartbeats 4000000 in
set_option maxRecDepth 100000 in
theorem c_X2_isWell (l : Launch) (hlf : l.stackTraces = false) (x : Cx) (M : Nat → Nat → Int32) (cn gn dn : Nat) (pn : Nat → Nat) (a b : Int32) (hO : OkO M cn gn dn pn) : vx_Met l yX2_isWell wsX2_isWell ({ frames := 8, cells := 2, slots := 12, locals := 133 }) (gP x M [.ref (xa x 0), .int a, .int b]) (gQx x (erCC cn a b) (some (.int (bI (weO M (tn a) (tn b))))) M) (gX x (erCC cn a b) M) 2 12 (gF x) := by
  refine g_metx (cc := cX2_isWell) (maxL := 3) (ret := some .boolean) (by decide) rfl (Nat.le_of_ble_eq_true rfl) ?_
  intro p e s m below meth c hx hb hr hml hts hown hlk ht hS hZ hP hV ls hl
  have hl : lv_has ls 3 [(0, .ref (xa x 0)), (1, .int a), (2, .int b)] := hl
  have hc8 := hO.c8
  have hg5 := hO.g5
  have hd8 := hO.d8
  refine lv_aload_n hx hb dX2_isWell_0 rfl (lv_at hl 0 rfl) ?_
  refine lv_iload_n hx hb dX2_isWell_1 rfl (lv_at hl 1 rfl) ?_
  refine lv_iload_n hx hb dX2_isWell_2 rfl (lv_at hl 2 rfl) ?_
  refine g_xcall0 (vx_runV (As := [.int a, .int b]) (rest := []) ⟨hx, hb, hml, hown, hts⟩ (c_X2_demandCables l hlf x M cn gn dn pn a b hO) (cwV 2 hts gX2_isWell_X2_demandCables rfl rfl rfl (by decide +kernel) ⟨Nat.le_of_ble_eq_true rfl, Nat.le_of_ble_eq_true rfl⟩) (g_preV hS hZ hP hV [.int a, .int b] (id := 0) (by decide) rfl rfl) rfl rfl hl.1 rfl (lv_room (Nat.le_of_ble_eq_true rfl)) dX2_isWell_3 ⟨Nat.le_of_ble_eq_true rfl, Nat.le_of_ble_eq_true rfl⟩) hV (fun E ce q H locs hE hP hV h1 h2 h3 => g_xout ht hlk hS hZ (Nat.le_of_ble_eq_true rfl) (Nat.le_of_ble_eq_true rfl) (by exact hE) rfl hP hV h1 h2 h3) (fun H locs x_1 hP hV => ?_)
  obtain ⟨j, k, hj, ea, hk, eb⟩ := erCC_none hO.c8 x_1
  rw [ea, eb] at hl
  have hp64 := pr_lt (show j < 8 by omega) (show k < 8 by omega)
  have h7j := hO.p7 hj
  have h7k := hO.p7 hk
  refine lv_aload_n hx hb dX2_isWell_6 rfl (lv_at hl 0 rfl) ?_
  refine lv_iload_n hx hb dX2_isWell_7 rfl (lv_at hl 1 rfl) ?_
  refine lv_iload_n hx hb dX2_isWell_8 rfl (lv_at hl 2 rfl) ?_
  refine g_call1 (va_runV (As := [.int (nI j), .int (nI k)]) (rest := []) ⟨hx, hb, hml, hown, hts⟩ (c_X2_crossWell l x M j k (by omega) (by omega)) (cwV 2 hts gX2_isWell_X2_crossWell rfl rfl rfl (by decide +kernel) ⟨Nat.le_of_ble_eq_true rfl, Nat.le_of_ble_eq_true rfl⟩) (g_preV hS hZ hP hV [.int (nI j), .int (nI k)] (id := 0) (by decide) rfl rfl) rfl rfl hl.1 rfl (lv_room (Nat.le_of_ble_eq_true rfl)) dX2_isWell_9 ⟨Nat.le_of_ble_eq_true rfl, Nat.le_of_ble_eq_true rfl⟩) hV (fun H locs hP hV => ?_)
  refine g_mqx (by assumption) ?_
  exact g_zret hx hb hr hlk hS hZ hP hV (Nat.le_of_ble_eq_true rfl) (Nat.le_of_ble_eq_true rfl) dX2_isWell_12 (bI_nar _) (by subst ea; subst eb; simp [bI, x_1, tn_nI (show j < 2 ^ 31 by omega), tn_nI (show k < 2 ^ 31 by omega)]) (by rfl)
set_option maxHeartbeats 4000000 in
set_option maxRecDepth 100000 in
theorem c_X2_isAgreed (l : Launch) (hlf : l.stackTraces = false) (x : Cx) (M : Nat → Nat → Int32) (cn gn dn : Nat) (pn : Nat → Nat) (a b : Int32) (hO : OkO M cn gn dn pn) (hA : ∀ i, i < 64 → vp_nar .boolean (M 4 i) = M 4 i) : vx_Met l yX2_isAgreed wsX2_isAgreed ({ frames := 8, cells := 2, slots := 12, locals := 133 }) (gP x M [.ref (xa x 0), .int a, .int b]) (gQx x (erCC cn a b) (some (.int (M 4 (pr (tn a) (tn b))))) M) (gX x (erCC cn a b) M) 2 12 (gF x) := by
  refine g_metx (cc := cX2_isAgreed) (maxL := 3) (ret := some .boolean) (by decide) rfl (Nat.le_of_ble_eq_true rfl) ?_
  intro p e s m below meth c hx hb hr hml hts hown hlk ht hS hZ hP hV ls hl
  have hl : lv_has ls 3 [(0, .ref (xa x 0)), (1, .int a), (2, .int b)] := hl
  have hw_f31 := hts (.fieldLink RX2 31 "CableOffice" "agreed" "[Z") (by decide +kernel)
  have hinX2 : ∀ w ∈ wsX20, w ∈ wsX2_isAgreed := by decide +kernel
  have hc8 := hO.c8
  have hg5 := hO.g5
  have hd8 := hO.d8
  refine lv_aload_n hx hb dX2_isAgreed_0 rfl (lv_at hl 0 rfl) ?_
  refine lv_iload_n hx hb dX2_isAgreed_1 rfl (lv_at hl 1 rfl) ?_
  refine lv_iload_n hx hb dX2_isAgreed_2 rfl (lv_at hl 2 rfl) ?_
  refine g_xcall0 (vx_runV (As := [.int a, .int b]) (rest := []) ⟨hx, hb, hml, hown, hts⟩ (c_X2_demandCables l hlf x M cn gn dn pn a b hO) (cwV 2 hts gX2_isAgreed_X2_demandCables rfl rfl rfl (by decide +kernel) ⟨Nat.le_of_ble_eq_true rfl, Nat.le_of_ble_eq_true rfl⟩) (g_preV hS hZ hP hV [.int a, .int b] (id := 0) (by decide) rfl rfl) rfl rfl hl.1 rfl (lv_room (Nat.le_of_ble_eq_true rfl)) dX2_isAgreed_3 ⟨Nat.le_of_ble_eq_true rfl, Nat.le_of_ble_eq_true rfl⟩) hV (fun E ce q H locs hE hP hV h1 h2 h3 => g_xout ht hlk hS hZ (Nat.le_of_ble_eq_true rfl) (Nat.le_of_ble_eq_true rfl) (by exact hE) rfl hP hV h1 h2 h3) (fun H locs x_1 hP hV => ?_)
  obtain ⟨j, k, hj, ea, hk, eb⟩ := erCC_none hO.c8 x_1
  rw [ea, eb] at hl
  have hp64 := pr_lt (show j < 8 by omega) (show k < 8 by omega)
  have h7j := hO.p7 hj
  have h7k := hO.p7 hk
  refine lv_aload_n hx hb dX2_isAgreed_6 rfl (lv_at hl 0 rfl) ?_
  refine g_get (C := RX2) (T := TX2) (N := 9) (v := .ref (xa x 4)) hx hb hts hinX2 hown hS hP (id := 0) (by decide) rfl rfl 5 (by decide) hw_f31 rfl dX2_isAgreed_7 ?_
  refine lv_iload_n hx hb dX2_isAgreed_10 rfl (lv_at hl 1 rfl) ?_
  refine lv_iload_n hx hb dX2_isAgreed_11 rfl (lv_at hl 2 rfl) ?_
  refine g_call1 (va_runS (As := [.int (nI j), .int (nI k)]) (rest := [.ref (xa x 4)]) ⟨hx, hb, hml, hown, hts⟩ (c_X2_pairOf l x M j k (by omega) (by omega)) (va_cwS 2 hts gX2_isAgreed_X2_pairOf rfl rfl rfl (by decide +kernel) ⟨Nat.le_of_ble_eq_true rfl, Nat.le_of_ble_eq_true rfl⟩) (g_preS hS hZ hP hV [.int (nI j), .int (nI k)]) rfl rfl hl.1 rfl (lv_room (Nat.le_of_ble_eq_true rfl)) dX2_isAgreed_12 ⟨Nat.le_of_ble_eq_true rfl, Nat.le_of_ble_eq_true rfl⟩) hV (fun H locs hP hV => ?_)
  refine g_zald (j := pr j k) hx hb hS hP (id := 4) (by omega) ((fun _ => rfl) _) (by decide) rfl (by omega) dX2_isAgreed_15 ?_
  refine g_mqx (by assumption) ?_
  exact g_zret hx hb hr hlk hS hZ hP hV (Nat.le_of_ble_eq_true rfl) (Nat.le_of_ble_eq_true rfl) dX2_isAgreed_16 (hA _ hp64) (by subst ea; subst eb; simp [bI, x_1, tn_nI (show j < 2 ^ 31 by omega), tn_nI (show k < 2 ^ 31 by omega)]) (by rfl)
set_option maxHeartbeats 4000000 in
set_option maxRecDepth 100000 in
theorem c_X2_agree (l : Launch) (hlf : l.stackTraces = false) (x : Cx) (M : Nat → Nat → Int32) (cn gn dn : Nat) (pn : Nat → Nat) (a b : Int32) (hO : OkO M cn gn dn pn) : vx_Met l yX2_agree wsX2_agree ({ frames := 8, cells := 3, slots := 18, locals := 133 }) (gP x M [.ref (xa x 0), .int a, .int b]) (gQx x (erAg M cn a b) (some (.int (nI (bpO (up2 M 4 (pr (tn a) (tn b)) 1) cn cn)))) (up2 M 4 (pr (tn a) (tn b)) 1)) (gX x (erAg M cn a b) M) 3 18 (gF x) := by
  refine g_metx (cc := cX2_agree) (maxL := 4) (ret := some .int) (by decide) rfl (Nat.le_of_ble_eq_true rfl) ?_
  intro p e s m below meth c hx hb hr hml hts hown hlk ht hS hZ hP hV ls hl
  have hl : lv_has ls 4 [(0, .ref (xa x 0)), (1, .int a), (2, .int b)] := hl
  have hw_k59 := hts (.classLink RX2 59 "java/lang/IllegalStateException") (by decide +kernel)
  have hw_i59 := hts (.initialized "java/lang/IllegalStateException") (by decide +kernel)
  have hat63 := exc_hat (ic := 63) (E := eI) hS (by decide +kernel) exc_h2_63 (fun w hw => hts w (List.mem_cons_of_mem _ (List.mem_append_left _ (List.mem_append_right _ hw))))
  have hw_f31 := hts (.fieldLink RX2 31 "CableOffice" "agreed" "[Z") (by decide +kernel)
  have hinX2 : ∀ w ∈ wsX20, w ∈ wsX2_agree := by decide +kernel
  have hc8 := hO.c8
  have hg5 := hO.g5
  have hd8 := hO.d8
  refine lv_aload_n hx hb dX2_agree_0 rfl (lv_at hl 0 rfl) ?_
  refine lv_iload_n hx hb dX2_agree_1 rfl (lv_at hl 1 rfl) ?_
  refine lv_iload_n hx hb dX2_agree_2 rfl (lv_at hl 2 rfl) ?_
  refine g_xcall0 (vx_runV (As := [.int a, .int b]) (rest := []) ⟨hx, hb, hml, hown, hts⟩ (c_X2_demandCables l hlf x M cn gn dn pn a b hO) (cwV 2 hts gX2_agree_X2_demandCables rfl rfl rfl (by decide +kernel) ⟨Nat.le_of_ble_eq_true rfl, Nat.le_of_ble_eq_true rfl⟩) (g_preV hS hZ hP hV [.int a, .int b] (id := 0) (by decide) rfl rfl) rfl rfl hl.1 rfl (lv_room (Nat.le_of_ble_eq_true rfl)) dX2_agree_3 ⟨Nat.le_of_ble_eq_true rfl, Nat.le_of_ble_eq_true rfl⟩) hV (fun E ce q H locs hE hP hV h1 h2 h3 => g_xout ht hlk hS hZ (Nat.le_of_ble_eq_true rfl) (Nat.le_of_ble_eq_true rfl) (by simp [erAg, orE, hE]) rfl hP hV h1 h2 h3) (fun H locs x_1 hP hV => ?_)
  obtain ⟨j, k, hj, ea, hk, eb⟩ := erCC_none hO.c8 x_1
  rw [ea, eb] at hl
  have hp64 := pr_lt (show j < 8 by omega) (show k < 8 by omega)
  have h7j := hO.p7 hj
  have h7k := hO.p7 hk
  refine lv_iload_n hx hb dX2_agree_6 rfl (lv_at hl 1 rfl) ?_
  refine lv_iload_n hx hb dX2_agree_7 rfl (lv_at hl 2 rfl) ?_
  refine g_call1 (va_runS (As := [.int (nI j), .int (nI k)]) (rest := []) ⟨hx, hb, hml, hown, hts⟩ (c_X2_pairOf l x M j k (by omega) (by omega)) (va_cwS 2 hts gX2_agree_X2_pairOf rfl rfl rfl (by decide +kernel) ⟨Nat.le_of_ble_eq_true rfl, Nat.le_of_ble_eq_true rfl⟩) (g_preS hS hZ hP hV [.int (nI j), .int (nI k)]) rfl rfl hl.1 rfl (lv_room (Nat.le_of_ble_eq_true rfl)) dX2_agree_8 ⟨Nat.le_of_ble_eq_true rfl, Nat.le_of_ble_eq_true rfl⟩) hV (fun H locs hP hV => ?_)
  refine lv_istore_n (lv' := [(3, .int (nI (pr j k))), (0, .ref (xa x 0)), (1, .int (nI j)), (2, .int (nI k))]) hx hb dX2_agree_11 rfl hl (by decide) rfl (fun ls hl => ?_)
  refine lv_aload_n hx hb dX2_agree_12 rfl (lv_at hl 1 rfl) ?_
  refine lv_iload_n hx hb dX2_agree_13 rfl (lv_at hl 2 rfl) ?_
  refine lv_iload_n hx hb dX2_agree_14 rfl (lv_at hl 3 rfl) ?_
  refine g_call1 (va_runV (As := [.int (nI j), .int (nI k)]) (rest := []) ⟨hx, hb, hml, hown, hts⟩ (c_X2_crossWell l x M j k (by omega) (by omega)) (cwV 2 hts gX2_agree_X2_crossWell rfl rfl rfl (by decide +kernel) ⟨Nat.le_of_ble_eq_true rfl, Nat.le_of_ble_eq_true rfl⟩) (g_preV hS hZ hP hV [.int (nI j), .int (nI k)] (id := 0) (by decide) rfl rfl) rfl rfl hl.1 rfl (lv_room (Nat.le_of_ble_eq_true rfl)) dX2_agree_15 ⟨Nat.le_of_ble_eq_true rfl, Nat.le_of_ble_eq_true rfl⟩) hV (fun H locs hP hV => ?_)
  refine h_if_eq_b (tgt := 30) hx hb dX2_agree_18 (by decide) (fun c_2 => ?_) (fun c_2 => ?_)
  · -- taken
    exact g_throw (E := eI) (ik := 59) (is := 107) (ic := 63) (text := _) hx hb ht hlf hown (by decide +kernel) hw_k59 hw_i59 (List.mem_of_getElem? (i := 0) rfl) hat63 exc_ot_63 hlk hS hZ hP hV (hl.1.trans hml.symm) dX2_agree_30 dX2_agree_33 dX2_agree_34 dX2_agree_36 dX2_agree_39 (Nat.le_of_ble_eq_true rfl) (Nat.le_of_ble_eq_true rfl) (Nat.le_of_ble_eq_true rfl) (Nat.le_of_ble_eq_true rfl) (Nat.le_of_ble_eq_true rfl) (Nat.le_of_ble_eq_true rfl) (by subst ea; subst eb; simp [orE, erAg, x_1, c_2, tn_nI (show j < 2 ^ 31 by omega), tn_nI (show k < 2 ^ 31 by omega)]) rfl
  · -- on
    refine lv_aload_n hx hb dX2_agree_21 rfl (lv_at hl 1 rfl) ?_
    refine g_get (C := RX2) (T := TX2) (N := 9) (v := .ref (xa x 4)) hx hb hts hinX2 hown hS hP (id := 0) (by decide) rfl rfl 5 (by decide) hw_f31 rfl dX2_agree_22 ?_
    refine lv_iload_n hx hb dX2_agree_25 rfl (lv_at hl 0 rfl) ?_
    refine g_zald (j := pr j k) hx hb hS hP (id := 4) (by omega) ((fun _ => rfl) _) (by decide) rfl (by omega) dX2_agree_26 ?_
    refine lv_if_eq (tgt := 40) hx hb dX2_agree_27 (by decide) (fun c_3 => ?_) (fun c_3 => ?_)
    · -- taken
      refine lv_aload_n hx hb dX2_agree_40 rfl (lv_at hl 1 rfl) ?_
      refine g_get (C := RX2) (T := TX2) (N := 9) (v := .ref (xa x 4)) hx hb hts hinX2 hown hS hP (id := 0) (by decide) rfl rfl 5 (by decide) hw_f31 rfl dX2_agree_41 ?_
      refine lv_iload_n hx hb dX2_agree_44 rfl (lv_at hl 0 rfl) ?_
      refine lv_iconst (v := 1) hx hb dX2_agree_45 (by decide) ?_
      refine g_zast (j := pr j k) hx hb hS hP hV (id := 4) (by omega) (fun _ => rfl) (by decide) rfl (by omega) (by decide) dX2_agree_46 (fun H locs hP hV => ?_)
      have hO4 : OkO (up2 M 4 (pr j k) 1) cn gn dn pn := hO.up (by omega)
      refine lv_aload_n hx hb dX2_agree_47 rfl (lv_at hl 1 rfl) ?_
      refine g_call1 (va_runV (As := []) (rest := []) ⟨hx, hb, hml, hown, hts⟩ (c_X2_countBarePairs l x (up2 M 4 (pr j k) 1) cn gn dn pn hO4) (cwV 0 hts gX2_agree_X2_countBarePairs rfl rfl rfl (by decide +kernel) ⟨Nat.le_of_ble_eq_true rfl, Nat.le_of_ble_eq_true rfl⟩) (g_preV hS hZ hP hV [] (id := 0) (by decide) rfl rfl) rfl rfl hl.1 rfl (lv_room (Nat.le_of_ble_eq_true rfl)) dX2_agree_48 ⟨Nat.le_of_ble_eq_true rfl, Nat.le_of_ble_eq_true rfl⟩) hV (fun H locs hP hV => ?_)
      refine g_mqx (by subst ea; subst eb; simp [orE, erAg, x_1, c_2, c_3, tn_nI (show j < 2 ^ 31 by omega), tn_nI (show k < 2 ^ 31 by omega)]) ?_
      exact g_iret hx hb hr hlk hS hZ hP hV (Nat.le_of_ble_eq_true rfl) (Nat.le_of_ble_eq_true rfl) dX2_agree_51 (by subst ea; subst eb; simp [bI, x_1, c_2, c_3, tn_nI (show j < 2 ^ 31 by omega), tn_nI (show k < 2 ^ 31 by omega)]) (by subst ea; subst eb; rw [tn_nI (show j < 2 ^ 31 by omega), tn_nI (show k < 2 ^ 31 by omega)])
    · -- on
      exact g_throw (E := eI) (ik := 59) (is := 107) (ic := 63) (text := _) hx hb ht hlf hown (by decide +kernel) hw_k59 hw_i59 (List.mem_of_getElem? (i := 0) rfl) hat63 exc_ot_63 hlk hS hZ hP hV (hl.1.trans hml.symm) dX2_agree_30 dX2_agree_33 dX2_agree_34 dX2_agree_36 dX2_agree_39 (Nat.le_of_ble_eq_true rfl) (Nat.le_of_ble_eq_true rfl) (Nat.le_of_ble_eq_true rfl) (Nat.le_of_ble_eq_true rfl) (Nat.le_of_ble_eq_true rfl) (Nat.le_of_ble_eq_true rfl) (by subst ea; subst eb; simp [orE, erAg, x_1, c_2, c_3, tn_nI (show j < 2 ^ 31 by omega), tn_nI (show k < 2 ^ 31 by omega)]) rfl
set_option maxHeartbeats 4000000 in
set_option maxRecDepth 100000 in
theorem c_X2_point (l : Launch) (hlf : l.stackTraces = false) (x : Cx) (M : Nat → Nat → Int32) (cn gn dn : Nat) (pn : Nat → Nat) (a q : Int32) (hO : OkO M cn gn dn pn) : vx_Met l yX2_point wsX2_point ({ frames := 8, cells := 2, slots := 12, locals := 133 }) (gP x M [.ref (xa x 0), .int a, .int q]) (gQx x (erPt cn pn a q) (some (.int (100 * rX M (tn a) (tn q) + rY M (tn a) (tn q)))) M) (gX x (erPt cn pn a q) M) 2 12 (gF x) := by
  refine g_metx (cc := cX2_point) (maxL := 3) (ret := some .int) (by decide) rfl (Nat.le_of_ble_eq_true rfl) ?_
  intro p e s m below meth c hx hb hr hml hts hown hlk ht hS hZ hP hV ls hl
  have hl : lv_has ls 3 [(0, .ref (xa x 0)), (1, .int a), (2, .int q)] := hl
  have hw_f16 := hts (.fieldLink RX2 16 "CableOffice" "routes" "[LCableOffice$Route;") (by decide +kernel)
  have hinX2 : ∀ w ∈ wsX20, w ∈ wsX2_point := by decide +kernel
  have hinX1 : ∀ w ∈ wsX10, w ∈ wsX2_point := by decide +kernel
  have hc8 := hO.c8
  have hg5 := hO.g5
  have hd8 := hO.d8
  refine lv_aload_n hx hb dX2_point_0 rfl (lv_at hl 0 rfl) ?_
  refine lv_iload_n hx hb dX2_point_1 rfl (lv_at hl 1 rfl) ?_
  refine lv_iload_n hx hb dX2_point_2 rfl (lv_at hl 2 rfl) ?_
  refine g_xcall0 (vx_runV (As := [.int a, .int q]) (rest := []) ⟨hx, hb, hml, hown, hts⟩ (c_X2_demandPoint l hlf x M cn gn dn pn a q hO) (cwV 2 hts gX2_point_X2_demandPoint rfl rfl rfl (by decide +kernel) ⟨Nat.le_of_ble_eq_true rfl, Nat.le_of_ble_eq_true rfl⟩) (g_preV hS hZ hP hV [.int a, .int q] (id := 0) (by decide) rfl rfl) rfl rfl hl.1 rfl (lv_room (Nat.le_of_ble_eq_true rfl)) dX2_point_3 ⟨Nat.le_of_ble_eq_true rfl, Nat.le_of_ble_eq_true rfl⟩) hV (fun E ce q H locs hE hP hV h1 h2 h3 => g_xout ht hlk hS hZ (Nat.le_of_ble_eq_true rfl) (Nat.le_of_ble_eq_true rfl) (by exact hE) rfl hP hV h1 h2 h3) (fun H locs x_1 hP hV => ?_)
  obtain ⟨j, k, hj, ea, hk, eb⟩ := erPt_none hO.c8 (fun i hi => hO.p7 hi) x_1
  rw [ea, eb] at hl
  have h7j := hO.p7 hj
  refine lv_bipush (v := 100) hx hb dX2_point_6 (by decide) ?_
  refine lv_aload_n hx hb dX2_point_8 rfl (lv_at hl 0 rfl) ?_
  refine g_get (C := RX2) (T := TX2) (N := 9) (v := .ref (xa x 1)) hx hb hts hinX2 hown hS hP (id := 0) (by decide) rfl rfl 1 (by decide) hw_f16 rfl dX2_point_9 ?_
  refine lv_iload_n hx hb dX2_point_12 rfl (lv_at hl 1 rfl) ?_
  refine g_aaldR (j := j) hx hb hS hP rfl (by omega) dX2_point_13 ?_
  refine g_getN (C := RX1) (T := TX1) (N := 3) (host := RX2) (v := .ref (xa x (11 + 3 * j + 1))) hx hb hts hinX1 hown hS hP (id := 11 + 3 * j) (by omega) (sh_r x _ (by omega)) rfl 0 (by decide) (by decide +kernel) rfl dX2_point_14 ?_
  refine lv_iload_n hx hb dX2_point_17 rfl (lv_at hl 2 rfl) ?_
  refine g_iald (j := k) hx hb hS hP (id := 11 + 3 * j + 1) (by omega) ((fun r => sh_x x r (by omega)) _) (by decide) rfl (by omega) dX2_point_18 ?_
  refine lv_imul hx hb dX2_point_19 ?_
  refine lv_aload_n hx hb dX2_point_20 rfl (lv_at hl 0 rfl) ?_
  refine g_get (C := RX2) (T := TX2) (N := 9) (v := .ref (xa x 1)) hx hb hts hinX2 hown hS hP (id := 0) (by decide) rfl rfl 1 (by decide) hw_f16 rfl dX2_point_21 ?_
  refine lv_iload_n hx hb dX2_point_24 rfl (lv_at hl 1 rfl) ?_
  refine g_aaldR (j := j) hx hb hS hP rfl (by omega) dX2_point_25 ?_
  refine g_getN (C := RX1) (T := TX1) (N := 3) (host := RX2) (v := .ref (xa x (11 + 3 * j + 2))) hx hb hts hinX1 hown hS hP (id := 11 + 3 * j) (by omega) (sh_r x _ (by omega)) rfl 1 (by decide) (by decide +kernel) rfl dX2_point_26 ?_
  refine lv_iload_n hx hb dX2_point_29 rfl (lv_at hl 2 rfl) ?_
  refine g_iald (j := k) hx hb hS hP (id := 11 + 3 * j + 2) (by omega) ((fun r => sh_y x r (by omega)) _) (by decide) rfl (by omega) dX2_point_30 ?_
  refine lv_iadd hx hb dX2_point_31 ?_
  refine g_mqx (by assumption) ?_
  exact g_iret hx hb hr hlk hS hZ hP hV (Nat.le_of_ble_eq_true rfl) (Nat.le_of_ble_eq_true rfl) dX2_point_32 (by subst ea; subst eb; simp [rX, rY, bI, x_1, tn_nI (show j < 2 ^ 31 by omega), tn_nI (show k < 2 ^ 31 by omega)]) (by rfl)
set_option maxHeartbeats 4000000 in
set_option maxRecDepth 100000 in
theorem c_X2_ground (l : Launch) (hlf : l.stackTraces = false) (x : Cx) (M : Nat → Nat → Int32) (cn gn dn : Nat) (pn : Nat → Nat) (le lo ri hh fr to : Int32) (hO : OkO M cn gn dn pn) : vx_Met l yX2_ground wsX2_ground ({ frames := 7, cells := 5, slots := 30, locals := 111 }) (gP x M [.ref (xa x 0), .int le, .int lo, .int ri, .int hh, .int fr, .int to]) (gQx x (erGr gn le lo ri hh fr to) (some (.int (nI gn))) (grM M gn le lo ri hh fr to)) (gX x (erGr gn le lo ri hh fr to) M) 5 30 (gF x) := by
  refine g_metx (cc := cX2_ground) (maxL := 8) (ret := some .int) (by decide) rfl (Nat.le_of_ble_eq_true rfl) ?_
  intro p e s m below meth c hx hb hr hml hts hown hlk ht hS hZ hP hV ls hl
  have hl : lv_has ls 8 [(0, .ref (xa x 0)), (1, .int le), (2, .int lo), (3, .int ri), (4, .int hh), (5, .int fr), (6, .int to)] := hl
  have hw_k113 := hts (.classLink RX2 113 "java/lang/IllegalArgumentException") (by decide +kernel)
  have hw_i113 := hts (.initialized "java/lang/IllegalArgumentException") (by decide +kernel)
  have hat117 := exc_hat (ic := 117) (E := eA) hS (by decide +kernel) exc_h2_117 (fun w hw => hts w (List.mem_cons_of_mem _ (List.mem_append_left _ (List.mem_append_right _ hw))))
  have hw_f41 := hts (.fieldLink RX2 41 "CableOffice" "groundCount" "I") (by decide +kernel)
  have hinX2 : ∀ w ∈ wsX20, w ∈ wsX2_ground := by decide +kernel
  have hw_f37 := hts (.fieldLink RX2 37 "CableOffice" "grounds" "[LCableOffice$Ground;") (by decide +kernel)
  have hw_iX0 := hts (.initialized RX0) (by decide +kernel)
  have hw_imX0_setBounds := hts (.instanceMethod yX0_setBounds) (by decide +kernel)
  have hw_seX0_setBounds := hts (.selects RX0 yX0_setBounds yX0_setBounds) (by decide +kernel)
  have hw_imX0_setMonths := hts (.instanceMethod yX0_setMonths) (by decide +kernel)
  have hw_seX0_setMonths := hts (.selects RX0 yX0_setMonths yX0_setMonths) (by decide +kernel)
  have hw_k59 := hts (.classLink RX2 59 "java/lang/IllegalStateException") (by decide +kernel)
  have hw_i59 := hts (.initialized "java/lang/IllegalStateException") (by decide +kernel)
  have hat63 := exc_hat (ic := 63) (E := eI) hS (by decide +kernel) exc_h2_63 (fun w hw => hts w (List.mem_cons_of_mem _ (List.mem_append_right _ hw)))
  have hc8 := hO.c8
  have hg5 := hO.g5
  have hd8 := hO.d8
  refine lv_iload_n hx hb dX2_ground_0 rfl (lv_at hl 1 rfl) ?_
  refine lv_iload_n hx hb dX2_ground_1 rfl (lv_at hl 2 rfl) ?_
  refine g_xcall0 (vx_runS (As := [.int le, .int lo]) (rest := []) ⟨hx, hb, hml, hown, hts⟩ (c_X2_demandPlace l hlf x M le lo) (va_cwS 2 hts gX2_ground_X2_demandPlace rfl rfl rfl (by decide +kernel) ⟨Nat.le_of_ble_eq_true rfl, Nat.le_of_ble_eq_true rfl⟩) (g_preS hS hZ hP hV [.int le, .int lo]) rfl rfl hl.1 rfl (lv_room (Nat.le_of_ble_eq_true rfl)) dX2_ground_2 ⟨Nat.le_of_ble_eq_true rfl, Nat.le_of_ble_eq_true rfl⟩) hV (fun E ce q H locs hE hP hV h1 h2 h3 => g_xout ht hlk hS hZ (Nat.le_of_ble_eq_true rfl) (Nat.le_of_ble_eq_true rfl) (by simp [erGr, orE, hE]) rfl hP hV h1 h2 h3) (fun H locs x_1 hP hV => ?_)
  refine lv_iload_n hx hb dX2_ground_5 rfl (lv_at hl 3 rfl) ?_
  refine lv_iload hx hb dX2_ground_6 (lv_at hl 4 rfl) ?_
  refine g_xcall0 (vx_runS (As := [.int ri, .int hh]) (rest := []) ⟨hx, hb, hml, hown, hts⟩ (c_X2_demandPlace l hlf x M ri hh) (va_cwS 2 hts gX2_ground_X2_demandPlace rfl rfl rfl (by decide +kernel) ⟨Nat.le_of_ble_eq_true rfl, Nat.le_of_ble_eq_true rfl⟩) (g_preS hS hZ hP hV [.int ri, .int hh]) rfl rfl hl.1 rfl (lv_room (Nat.le_of_ble_eq_true rfl)) dX2_ground_8 ⟨Nat.le_of_ble_eq_true rfl, Nat.le_of_ble_eq_true rfl⟩) hV (fun E ce q H locs hE hP hV h1 h2 h3 => g_xout ht hlk hS hZ (Nat.le_of_ble_eq_true rfl) (Nat.le_of_ble_eq_true rfl) (by simp [erGr, orE, hE, x_1]) rfl hP hV h1 h2 h3) (fun H locs x_2 hP hV => ?_)
  refine lv_iload_n hx hb dX2_ground_11 rfl (lv_at hl 3 rfl) ?_
  refine lv_iload_n hx hb dX2_ground_12 rfl (lv_at hl 1 rfl) ?_
  refine lv_icmp_lt (tgt := 22) hx hb dX2_ground_13 (by decide) (fun c_3 => ?_) (fun c_3 => ?_)
  · -- taken
    exact g_throw (E := eA) (ik := 113) (is := 115) (ic := 117) (text := _) hx hb ht hlf hown (by decide +kernel) hw_k113 hw_i113 (List.mem_of_getElem? (i := 1) rfl) hat117 exc_ot_117 hlk hS hZ hP hV (hl.1.trans hml.symm) dX2_ground_22 dX2_ground_25 dX2_ground_26 dX2_ground_28 dX2_ground_31 (Nat.le_of_ble_eq_true rfl) (Nat.le_of_ble_eq_true rfl) (Nat.le_of_ble_eq_true rfl) (Nat.le_of_ble_eq_true rfl) (Nat.le_of_ble_eq_true rfl) (Nat.le_of_ble_eq_true rfl) (by simp [orE, erGr, x_1, x_2, c_3]) rfl
  · -- on
    refine lv_iload hx hb dX2_ground_16 (lv_at hl 4 rfl) ?_
    refine lv_iload_n hx hb dX2_ground_18 rfl (lv_at hl 2 rfl) ?_
    refine lv_icmp_ge (tgt := 32) hx hb dX2_ground_19 (by decide) (fun c_4 => ?_) (fun c_4 => ?_)
    · -- taken
      refine lv_iload hx hb dX2_ground_32 (lv_at hl 5 rfl) ?_
      refine g_xcall0 (vx_runS (As := [.int fr]) (rest := []) ⟨hx, hb, hml, hown, hts⟩ (c_X2_demandMonth l hlf x M fr) (va_cwS 1 hts gX2_ground_X2_demandMonth rfl rfl rfl (by decide +kernel) ⟨Nat.le_of_ble_eq_true rfl, Nat.le_of_ble_eq_true rfl⟩) (g_preS hS hZ hP hV [.int fr]) rfl rfl hl.1 rfl (lv_room (Nat.le_of_ble_eq_true rfl)) dX2_ground_34 ⟨Nat.le_of_ble_eq_true rfl, Nat.le_of_ble_eq_true rfl⟩) hV (fun E ce q H locs hE hP hV h1 h2 h3 => g_xout ht hlk hS hZ (Nat.le_of_ble_eq_true rfl) (Nat.le_of_ble_eq_true rfl) (by simp [erGr, orE, hE, x_1, x_2, c_3, c_4]) rfl hP hV h1 h2 h3) (fun H locs x_5 hP hV => ?_)
      refine lv_iload hx hb dX2_ground_37 (lv_at hl 6 rfl) ?_
      refine g_xcall0 (vx_runS (As := [.int to]) (rest := []) ⟨hx, hb, hml, hown, hts⟩ (c_X2_demandMonth l hlf x M to) (va_cwS 1 hts gX2_ground_X2_demandMonth rfl rfl rfl (by decide +kernel) ⟨Nat.le_of_ble_eq_true rfl, Nat.le_of_ble_eq_true rfl⟩) (g_preS hS hZ hP hV [.int to]) rfl rfl hl.1 rfl (lv_room (Nat.le_of_ble_eq_true rfl)) dX2_ground_39 ⟨Nat.le_of_ble_eq_true rfl, Nat.le_of_ble_eq_true rfl⟩) hV (fun E ce q H locs hE hP hV h1 h2 h3 => g_xout ht hlk hS hZ (Nat.le_of_ble_eq_true rfl) (Nat.le_of_ble_eq_true rfl) (by simp [erGr, orE, hE, x_1, x_2, c_3, c_4, x_5]) rfl hP hV h1 h2 h3) (fun H locs x_6 hP hV => ?_)
      refine lv_aload_n hx hb dX2_ground_42 rfl (lv_at hl 0 rfl) ?_
      refine g_get (C := RX2) (T := TX2) (N := 9) (v := .int (nI gn)) hx hb hts hinX2 hown hS hP (id := 0) (by decide) rfl rfl 7 (by decide) hw_f41 (congrArg (fun z => some (Value.int z)) hO.g) dX2_ground_43 ?_
      refine lv_iconst (v := 5) hx hb dX2_ground_46 (by decide) ?_
      refine h_icmp_lt_n (a := gn) (b := 5) (tgt := 60) hx hb (by omega) (by omega) dX2_ground_47 (by decide) (fun c_7 => ?_) (fun c_7 => ?_)
      · -- taken
        refine lv_aload_n hx hb dX2_ground_60 rfl (lv_at hl 0 rfl) ?_
        refine g_get (C := RX2) (T := TX2) (N := 9) (v := .int (nI gn)) hx hb hts hinX2 hown hS hP (id := 0) (by decide) rfl rfl 7 (by decide) hw_f41 (congrArg (fun z => some (Value.int z)) hO.g) dX2_ground_61 ?_
        refine lv_istore (lv' := [(7, .int (nI gn)), (0, .ref (xa x 0)), (1, .int le), (2, .int lo), (3, .int ri), (4, .int hh), (5, .int fr), (6, .int to)]) hx hb dX2_ground_64 hl (by decide) rfl (fun ls hl => ?_)
        refine lv_aload_n hx hb dX2_ground_66 rfl (lv_at hl 1 rfl) ?_
        refine g_get (C := RX2) (T := TX2) (N := 9) (v := .ref (xa x 5)) hx hb hts hinX2 hown hS hP (id := 0) (by decide) rfl rfl 6 (by decide) hw_f37 rfl dX2_ground_67 ?_
        refine lv_iload hx hb dX2_ground_70 (lv_at hl 0 rfl) ?_
        refine g_aaldG (j := gn) hx hb hS hP rfl (by omega) dX2_ground_72 ?_
        refine lv_iload_n hx hb dX2_ground_73 rfl (lv_at hl 2 rfl) ?_
        refine lv_iload_n hx hb dX2_ground_74 rfl (lv_at hl 3 rfl) ?_
        refine lv_iload_n hx hb dX2_ground_75 rfl (lv_at hl 4 rfl) ?_
        refine lv_iload hx hb dX2_ground_76 (lv_at hl 5 rfl) ?_
        refine g_call0 (va_runVN (As := [.int le, .int lo, .int ri, .int hh]) (rest := []) ⟨hx, hb, hml, hown, hts⟩ (c_X0_setBounds l x M gn le lo ri hh (by omega)) ⟨va_cnB (host := RX2) 4 hts gX2_ground_X0_setBounds_n124 rfl rfl rfl (hS.2.2.2.2.1 _ (by decide +kernel)) hw_iX0 (by decide +kernel) ⟨Nat.le_of_ble_eq_true rfl, Nat.le_of_ble_eq_true rfl⟩, hw_imX0_setBounds, hw_seX0_setBounds⟩ (g_preV hS hZ hP hV [.int le, .int lo, .int ri, .int hh] (id := 6 + gn) (by omega) (sh_g x _ (by omega)) rfl) rfl rfl hl.1 rfl (lv_room (Nat.le_of_ble_eq_true rfl)) dX2_ground_78 ⟨Nat.le_of_ble_eq_true rfl, Nat.le_of_ble_eq_true rfl⟩) hV (fun H locs hP hV => ?_)
        refine lv_aload_n hx hb dX2_ground_81 rfl (lv_at hl 1 rfl) ?_
        refine g_get (C := RX2) (T := TX2) (N := 9) (v := .ref (xa x 5)) hx hb hts hinX2 hown hS hP (id := 0) (by decide) rfl rfl 6 (by decide) hw_f37 rfl dX2_ground_82 ?_
        refine lv_iload hx hb dX2_ground_85 (lv_at hl 0 rfl) ?_
        refine g_aaldG (j := gn) hx hb hS hP rfl (by omega) dX2_ground_87 ?_
        refine lv_iload hx hb dX2_ground_88 (lv_at hl 6 rfl) ?_
        refine lv_iload hx hb dX2_ground_90 (lv_at hl 7 rfl) ?_
        refine g_call0 (va_runVN (As := [.int fr, .int to]) (rest := []) ⟨hx, hb, hml, hown, hts⟩ (c_X0_setMonths l x (up2 (up2 (up2 (up2 M (6 + gn) 0 le) (6 + gn) 1 lo) (6 + gn) 2 ri) (6 + gn) 3 hh) gn fr to (by omega)) ⟨va_cnB (host := RX2) 2 hts gX2_ground_X0_setMonths_n128 rfl rfl rfl (hS.2.2.2.2.1 _ (by decide +kernel)) hw_iX0 (by decide +kernel) ⟨Nat.le_of_ble_eq_true rfl, Nat.le_of_ble_eq_true rfl⟩, hw_imX0_setMonths, hw_seX0_setMonths⟩ (g_preV hS hZ hP hV [.int fr, .int to] (id := 6 + gn) (by omega) (sh_g x _ (by omega)) rfl) rfl rfl hl.1 rfl (lv_room (Nat.le_of_ble_eq_true rfl)) dX2_ground_92 ⟨Nat.le_of_ble_eq_true rfl, Nat.le_of_ble_eq_true rfl⟩) hV (fun H locs hP hV => ?_)
        have hg7 : (up2 (up2 (up2 (up2 (up2 (up2 M (6 + gn) 0 le) (6 + gn) 1 lo) (6 + gn) 2 ri) (6 + gn) 3 hh) (6 + gn) 4 fr) (6 + gn) 5 to) 0 7 = nI gn := by simp only [up2, if_neg (show ¬ 0 = 6 + gn by omega)]; exact hO.g
        refine lv_aload_n hx hb dX2_ground_95 rfl (lv_at hl 1 rfl) ?_
        refine lv_dup hx hb dX2_ground_96 rfl ?_
        refine g_get (C := RX2) (T := TX2) (N := 9) (v := .int (nI gn)) hx hb hts hinX2 hown hS hP (id := 0) (by decide) rfl rfl 7 (by decide) hw_f41 (congrArg (fun z => some (Value.int z)) hg7) dX2_ground_97 ?_
        refine lv_iconst (v := 1) hx hb dX2_ground_100 (by decide) ?_
        refine h_iadd (v := nI (gn + 1)) hx hb dX2_ground_101 (nI_add (gn) (1)) ?_
        refine g_put (C := RX2) (T := TX2) (N := 9) hx hb hts hinX2 tyX2 tyX2_ok nmX2 hown hS hP hV (id := 0) (by decide) rfl rfl 7 (by decide) hw_f41 rfl (by decide +kernel) (Nat.le_of_ble_eq_true rfl) rfl dX2_ground_102 (fun H locs hP hV => ?_)
        refine lv_iload hx hb dX2_ground_105 (lv_at hl 0 rfl) ?_
        refine g_mqx (by simp [orE, erGr, x_1, x_2, c_3, c_4, x_5, x_6, c_7]) ?_
        exact g_iret hx hb hr hlk hS hZ hP hV (Nat.le_of_ble_eq_true rfl) (Nat.le_of_ble_eq_true rfl) dX2_ground_107 (by rfl) (by rfl)
      · -- on
        exact g_throw (E := eI) (ik := 59) (is := 122) (ic := 63) (text := _) hx hb ht hlf hown (by decide +kernel) hw_k59 hw_i59 (List.mem_of_getElem? (i := 2) rfl) hat63 exc_ot_63 hlk hS hZ hP hV (hl.1.trans hml.symm) dX2_ground_50 dX2_ground_53 dX2_ground_54 dX2_ground_56 dX2_ground_59 (Nat.le_of_ble_eq_true rfl) (Nat.le_of_ble_eq_true rfl) (Nat.le_of_ble_eq_true rfl) (Nat.le_of_ble_eq_true rfl) (Nat.le_of_ble_eq_true rfl) (Nat.le_of_ble_eq_true rfl) (by simp [orE, erGr, x_1, x_2, c_3, c_4, x_5, x_6, c_7]) rfl
    · -- on
      exact g_throw (E := eA) (ik := 113) (is := 115) (ic := 117) (text := _) hx hb ht hlf hown (by decide +kernel) hw_k113 hw_i113 (List.mem_of_getElem? (i := 1) rfl) hat117 exc_ot_117 hlk hS hZ hP hV (hl.1.trans hml.symm) dX2_ground_22 dX2_ground_25 dX2_ground_26 dX2_ground_28 dX2_ground_31 (Nat.le_of_ble_eq_true rfl) (Nat.le_of_ble_eq_true rfl) (Nat.le_of_ble_eq_true rfl) (Nat.le_of_ble_eq_true rfl) (Nat.le_of_ble_eq_true rfl) (Nat.le_of_ble_eq_true rfl) (by simp [orE, erGr, x_1, x_2, c_3, c_4]) rfl
set_option maxHeartbeats 4000000 in
set_option maxRecDepth 100000 in
theorem c_X2_tell (l : Launch) (hlf : l.stackTraces = false) (x : Cx) (M : Nat → Nat → Int32) (cn gn dn : Nat) (pn : Nat → Nat) (g am : Int32) (hO : OkO M cn gn dn pn) : vx_Met l yX2_tell wsX2_tell ({ frames := 7, cells := 3, slots := 18, locals := 111 }) (gP x M [.ref (xa x 0), .int g, .int am]) (gQx x (erTe M gn g am) (some (.int (prO (teM M (tn g) am (6 + tn g) 6) (teM M (tn g) am (6 + tn g) 7)))) (teM M (tn g) am)) (gX x (erTe M gn g am) M) 3 18 (gF x) := by
  refine g_metx (cc := cX2_tell) (maxL := 4) (ret := some .int) (by decide) rfl (Nat.le_of_ble_eq_true rfl) ?_
  intro p e s m below meth c hx hb hr hml hts hown hlk ht hS hZ hP hV ls hl
  have hl : lv_has ls 4 [(0, .ref (xa x 0)), (1, .int g), (2, .int am)] := hl
  have hw_k113 := hts (.classLink RX2 113 "java/lang/IllegalArgumentException") (by decide +kernel)
  have hw_i113 := hts (.initialized "java/lang/IllegalArgumentException") (by decide +kernel)
  have hat117 := exc_hat (ic := 117) (E := eA) hS (by decide +kernel) exc_h2_117 (fun w hw => hts w (List.mem_cons_of_mem _ (List.mem_append_left _ (List.mem_append_left _ (List.mem_append_right _ hw)))))
  have hw_k134 := hts (.constant RX2 134 1000000) (by decide +kernel)
  have hw_f37 := hts (.fieldLink RX2 37 "CableOffice" "grounds" "[LCableOffice$Ground;") (by decide +kernel)
  have hinX2 : ∀ w ∈ wsX20, w ∈ wsX2_tell := by decide +kernel
  have hinX0 : ∀ w ∈ wsX00, w ∈ wsX2_tell := by decide +kernel
  have hw_iX0 := hts (.initialized RX0) (by decide +kernel)
  have hw_imX0_price := hts (.instanceMethod yX0_price) (by decide +kernel)
  have hw_seX0_price := hts (.selects RX0 yX0_price yX0_price) (by decide +kernel)
  have hw_k59 := hts (.classLink RX2 59 "java/lang/IllegalStateException") (by decide +kernel)
  have hw_i59 := hts (.initialized "java/lang/IllegalStateException") (by decide +kernel)
  have hat63 := exc_hat (ic := 63) (E := eI) hS (by decide +kernel) exc_h2_63 (fun w hw => hts w (List.mem_cons_of_mem _ (List.mem_append_left _ (List.mem_append_right _ hw))))
  have hc8 := hO.c8
  have hg5 := hO.g5
  have hd8 := hO.d8
  refine lv_aload_n hx hb dX2_tell_0 rfl (lv_at hl 0 rfl) ?_
  refine lv_iload_n hx hb dX2_tell_1 rfl (lv_at hl 1 rfl) ?_
  refine g_xcall0 (vx_runV (As := [.int g]) (rest := []) ⟨hx, hb, hml, hown, hts⟩ (c_X2_demandGround l hlf x M cn gn dn pn g hO) (cwV 1 hts gX2_tell_X2_demandGround rfl rfl rfl (by decide +kernel) ⟨Nat.le_of_ble_eq_true rfl, Nat.le_of_ble_eq_true rfl⟩) (g_preV hS hZ hP hV [.int g] (id := 0) (by decide) rfl rfl) rfl rfl hl.1 rfl (lv_room (Nat.le_of_ble_eq_true rfl)) dX2_tell_2 ⟨Nat.le_of_ble_eq_true rfl, Nat.le_of_ble_eq_true rfl⟩) hV (fun E ce q H locs hE hP hV h1 h2 h3 => g_xout ht hlk hS hZ (Nat.le_of_ble_eq_true rfl) (Nat.le_of_ble_eq_true rfl) (by simp [erTe, orE, hE]) rfl hP hV h1 h2 h3) (fun H locs x_1 hP hV => ?_)
  obtain ⟨u, hu, eg⟩ := erC_none (show gn ≤ 8 by omega) x_1
  rw [eg] at hl
  refine lv_iload_n hx hb dX2_tell_5 rfl (lv_at hl 2 rfl) ?_
  refine lv_if_lt (tgt := 15) hx hb dX2_tell_6 (by decide) (fun c_2 => ?_) (fun c_2 => ?_)
  · -- taken
    exact g_throw (E := eA) (ik := 113) (is := 135) (ic := 117) (text := _) hx hb ht hlf hown (by decide +kernel) hw_k113 hw_i113 (List.mem_of_getElem? (i := 3) rfl) hat117 exc_ot_117 hlk hS hZ hP hV (hl.1.trans hml.symm) dX2_tell_15 dX2_tell_18 dX2_tell_19 dX2_tell_21 dX2_tell_24 (Nat.le_of_ble_eq_true rfl) (Nat.le_of_ble_eq_true rfl) (Nat.le_of_ble_eq_true rfl) (Nat.le_of_ble_eq_true rfl) (Nat.le_of_ble_eq_true rfl) (Nat.le_of_ble_eq_true rfl) (by subst eg; simp [orE, erTe, x_1, c_2, tn_nI (show u < 2 ^ 31 by omega)]) rfl
  · -- on
    refine lv_iload_n hx hb dX2_tell_9 rfl (lv_at hl 2 rfl) ?_
    refine lv_ldc (v := 1000000) hx hb hown hw_k134 dX2_tell_10 ?_
    refine lv_icmp_le (tgt := 25) hx hb dX2_tell_12 (by decide) (fun c_3 => ?_) (fun c_3 => ?_)
    · -- taken
      refine lv_aload_n hx hb dX2_tell_25 rfl (lv_at hl 0 rfl) ?_
      refine g_get (C := RX2) (T := TX2) (N := 9) (v := .ref (xa x 5)) hx hb hts hinX2 hown hS hP (id := 0) (by decide) rfl rfl 6 (by decide) hw_f37 rfl dX2_tell_26 ?_
      refine lv_iload_n hx hb dX2_tell_29 rfl (lv_at hl 1 rfl) ?_
      refine g_aaldG (j := u) hx hb hS hP rfl (by omega) dX2_tell_30 ?_
      refine lv_astore_n (lv' := [(3, .ref (xa x (6 + u))), (0, .ref (xa x 0)), (1, .int (nI u)), (2, .int am)]) hx hb dX2_tell_31 rfl hl (by decide) rfl (fun ls hl => ?_)
      refine lv_aload_n hx hb dX2_tell_32 rfl (lv_at hl 0 rfl) ?_
      refine g_getN (C := RX0) (T := TX0) (N := 9) (host := RX2) (v := .int (M (6 + u) 6)) hx hb hts hinX0 hown hS hP (id := 6 + u) (by omega) (sh_g x _ (by omega)) rfl 6 (by decide) (by decide +kernel) rfl dX2_tell_33 ?_
      refine lv_bipush (v := 100) hx hb dX2_tell_36 (by decide) ?_
      refine lv_icmp_lt (tgt := 51) hx hb dX2_tell_38 (by decide) (fun c_4 => ?_) (fun c_4 => ?_)
      · -- taken
        refine lv_aload_n hx hb dX2_tell_51 rfl (lv_at hl 0 rfl) ?_
        refine lv_dup hx hb dX2_tell_52 rfl ?_
        refine g_getN (C := RX0) (T := TX0) (N := 9) (host := RX2) (v := .int (M (6 + u) 6)) hx hb hts hinX0 hown hS hP (id := 6 + u) (by omega) (sh_g x _ (by omega)) rfl 6 (by decide) (by decide +kernel) rfl dX2_tell_53 ?_
        refine lv_iconst (v := 1) hx hb dX2_tell_56 (by decide) ?_
        refine lv_iadd hx hb dX2_tell_57 ?_
        refine g_putN (C := RX0) (T := TX0) (N := 9) (host := RX2) hx hb hts hinX0 tyX0 tyX0_ok nmX0 hown hS hP hV (id := 6 + u) (by omega) (sh_g x _ (by omega)) rfl 6 (by decide) (by decide +kernel) rfl (by decide +kernel) (Nat.le_of_ble_eq_true rfl) ((sh_g x _ (by omega)).trans rfl) dX2_tell_58 (fun H locs hP hV => ?_)
        refine lv_aload_n hx hb dX2_tell_61 rfl (lv_at hl 0 rfl) ?_
        refine lv_dup hx hb dX2_tell_62 rfl ?_
        refine g_getN (C := RX0) (T := TX0) (N := 9) (host := RX2) (v := .int ((up2 M (6 + u) 6 ((M (6 + u) 6) + 1)) (6 + u) 7)) hx hb hts hinX0 hown hS hP (id := 6 + u) (by omega) (sh_g x _ (by omega)) rfl 7 (by decide) (by decide +kernel) rfl dX2_tell_63 ?_
        refine lv_iload_n hx hb dX2_tell_66 rfl (lv_at hl 3 rfl) ?_
        refine lv_iadd hx hb dX2_tell_67 ?_
        refine g_putN (C := RX0) (T := TX0) (N := 9) (host := RX2) hx hb hts hinX0 tyX0 tyX0_ok nmX0 hown hS hP hV (id := 6 + u) (by omega) (sh_g x _ (by omega)) rfl 7 (by decide) (by decide +kernel) rfl (by decide +kernel) (Nat.le_of_ble_eq_true rfl) ((sh_g x _ (by omega)).trans rfl) dX2_tell_68 (fun H locs hP hV => ?_)
        refine lv_aload_n hx hb dX2_tell_71 rfl (lv_at hl 0 rfl) ?_
        refine g_call1 (va_runVN (As := []) (rest := []) ⟨hx, hb, hml, hown, hts⟩ (c_X0_price l x (teM M u am) u (by omega)) ⟨va_cnB (host := RX2) 0 hts gX2_tell_X0_price_n145 rfl rfl rfl (hS.2.2.2.2.1 _ (by decide +kernel)) hw_iX0 (by decide +kernel) ⟨Nat.le_of_ble_eq_true rfl, Nat.le_of_ble_eq_true rfl⟩, hw_imX0_price, hw_seX0_price⟩ (g_preV hS hZ hP hV [] (id := 6 + u) (by omega) (sh_g x _ (by omega)) rfl) rfl rfl hl.1 rfl (lv_room (Nat.le_of_ble_eq_true rfl)) dX2_tell_72 ⟨Nat.le_of_ble_eq_true rfl, Nat.le_of_ble_eq_true rfl⟩) hV (fun H locs hP hV => ?_)
        refine g_mqx (by subst eg; simp [orE, erTe, x_1, c_2, c_3, c_4, tn_nI (show u < 2 ^ 31 by omega)]) ?_
        exact g_iret hx hb hr hlk hS hZ hP hV (Nat.le_of_ble_eq_true rfl) (Nat.le_of_ble_eq_true rfl) dX2_tell_75 (by subst eg; simp [bI, x_1, c_2, c_3, c_4, tn_nI (show u < 2 ^ 31 by omega)]) (by subst eg; rw [tn_nI (show u < 2 ^ 31 by omega)])
      · -- on
        exact g_throw (E := eI) (ik := 59) (is := 140) (ic := 63) (text := _) hx hb ht hlf hown (by decide +kernel) hw_k59 hw_i59 (List.mem_of_getElem? (i := 4) rfl) hat63 exc_ot_63 hlk hS hZ hP hV (hl.1.trans hml.symm) dX2_tell_41 dX2_tell_44 dX2_tell_45 dX2_tell_47 dX2_tell_50 (Nat.le_of_ble_eq_true rfl) (Nat.le_of_ble_eq_true rfl) (Nat.le_of_ble_eq_true rfl) (Nat.le_of_ble_eq_true rfl) (Nat.le_of_ble_eq_true rfl) (Nat.le_of_ble_eq_true rfl) (by subst eg; simp [orE, erTe, x_1, c_2, c_3, c_4, tn_nI (show u < 2 ^ 31 by omega)]) rfl
    · -- on
      exact g_throw (E := eA) (ik := 113) (is := 135) (ic := 117) (text := _) hx hb ht hlf hown (by decide +kernel) hw_k113 hw_i113 (List.mem_of_getElem? (i := 3) rfl) hat117 exc_ot_117 hlk hS hZ hP hV (hl.1.trans hml.symm) dX2_tell_15 dX2_tell_18 dX2_tell_19 dX2_tell_21 dX2_tell_24 (Nat.le_of_ble_eq_true rfl) (Nat.le_of_ble_eq_true rfl) (Nat.le_of_ble_eq_true rfl) (Nat.le_of_ble_eq_true rfl) (Nat.le_of_ble_eq_true rfl) (Nat.le_of_ble_eq_true rfl) (by subst eg; simp [orE, erTe, x_1, c_2, c_3, tn_nI (show u < 2 ^ 31 by omega)]) rfl
set_option maxHeartbeats 4000000 in
set_option maxRecDepth 100000 in
theorem c_X2_isClosed (l : Launch) (hlf : l.stackTraces = false) (x : Cx) (M : Nat → Nat → Int32) (cn gn dn : Nat) (pn : Nat → Nat) (g mo : Int32) (hO : OkO M cn gn dn pn) : vx_Met l yX2_isClosed wsX2_isClosed ({ frames := 7, cells := 2, slots := 12, locals := 111 }) (gP x M [.ref (xa x 0), .int g, .int mo]) (gQx x (orE (erC gn g) (erMo mo)) (some (.int (bI (shutO (M (6 + tn g) 4) (M (6 + tn g) 5) mo)))) M) (gX x (orE (erC gn g) (erMo mo)) M) 2 12 (gF x) := by
  refine g_metx (cc := cX2_isClosed) (maxL := 3) (ret := some .boolean) (by decide) rfl (Nat.le_of_ble_eq_true rfl) ?_
  intro p e s m below meth c hx hb hr hml hts hown hlk ht hS hZ hP hV ls hl
  have hl : lv_has ls 3 [(0, .ref (xa x 0)), (1, .int g), (2, .int mo)] := hl
  have hw_f37 := hts (.fieldLink RX2 37 "CableOffice" "grounds" "[LCableOffice$Ground;") (by decide +kernel)
  have hinX2 : ∀ w ∈ wsX20, w ∈ wsX2_isClosed := by decide +kernel
  have hw_iX0 := hts (.initialized RX0) (by decide +kernel)
  have hw_imX0_isShutIn := hts (.instanceMethod yX0_isShutIn) (by decide +kernel)
  have hw_seX0_isShutIn := hts (.selects RX0 yX0_isShutIn yX0_isShutIn) (by decide +kernel)
  have hc8 := hO.c8
  have hg5 := hO.g5
  have hd8 := hO.d8
  refine lv_aload_n hx hb dX2_isClosed_0 rfl (lv_at hl 0 rfl) ?_
  refine lv_iload_n hx hb dX2_isClosed_1 rfl (lv_at hl 1 rfl) ?_
  refine g_xcall0 (vx_runV (As := [.int g]) (rest := []) ⟨hx, hb, hml, hown, hts⟩ (c_X2_demandGround l hlf x M cn gn dn pn g hO) (cwV 1 hts gX2_isClosed_X2_demandGround rfl rfl rfl (by decide +kernel) ⟨Nat.le_of_ble_eq_true rfl, Nat.le_of_ble_eq_true rfl⟩) (g_preV hS hZ hP hV [.int g] (id := 0) (by decide) rfl rfl) rfl rfl hl.1 rfl (lv_room (Nat.le_of_ble_eq_true rfl)) dX2_isClosed_2 ⟨Nat.le_of_ble_eq_true rfl, Nat.le_of_ble_eq_true rfl⟩) hV (fun E ce q H locs hE hP hV h1 h2 h3 => g_xout ht hlk hS hZ (Nat.le_of_ble_eq_true rfl) (Nat.le_of_ble_eq_true rfl) (by simp [orE, hE]) rfl hP hV h1 h2 h3) (fun H locs x_1 hP hV => ?_)
  obtain ⟨u, hu, eg⟩ := erC_none (show gn ≤ 8 by omega) x_1
  rw [eg] at hl
  refine lv_iload_n hx hb dX2_isClosed_5 rfl (lv_at hl 2 rfl) ?_
  refine g_xcall0 (vx_runS (As := [.int mo]) (rest := []) ⟨hx, hb, hml, hown, hts⟩ (c_X2_demandMonth l hlf x M mo) (va_cwS 1 hts gX2_isClosed_X2_demandMonth rfl rfl rfl (by decide +kernel) ⟨Nat.le_of_ble_eq_true rfl, Nat.le_of_ble_eq_true rfl⟩) (g_preS hS hZ hP hV [.int mo]) rfl rfl hl.1 rfl (lv_room (Nat.le_of_ble_eq_true rfl)) dX2_isClosed_6 ⟨Nat.le_of_ble_eq_true rfl, Nat.le_of_ble_eq_true rfl⟩) hV (fun E ce q H locs hE hP hV h1 h2 h3 => g_xout ht hlk hS hZ (Nat.le_of_ble_eq_true rfl) (Nat.le_of_ble_eq_true rfl) (by simp [orE, hE, x_1]) rfl hP hV h1 h2 h3) (fun H locs x_2 hP hV => ?_)
  refine lv_aload_n hx hb dX2_isClosed_9 rfl (lv_at hl 0 rfl) ?_
  refine g_get (C := RX2) (T := TX2) (N := 9) (v := .ref (xa x 5)) hx hb hts hinX2 hown hS hP (id := 0) (by decide) rfl rfl 6 (by decide) hw_f37 rfl dX2_isClosed_10 ?_
  refine lv_iload_n hx hb dX2_isClosed_13 rfl (lv_at hl 1 rfl) ?_
  refine g_aaldG (j := u) hx hb hS hP rfl (by omega) dX2_isClosed_14 ?_
  refine lv_iload_n hx hb dX2_isClosed_15 rfl (lv_at hl 2 rfl) ?_
  refine g_call1 (va_runVN (As := [.int mo]) (rest := []) ⟨hx, hb, hml, hown, hts⟩ (c_X0_isShutIn l x M u mo (by omega)) ⟨va_cnB (host := RX2) 1 hts gX2_isClosed_X0_isShutIn_n148 rfl rfl rfl (hS.2.2.2.2.1 _ (by decide +kernel)) hw_iX0 (by decide +kernel) ⟨Nat.le_of_ble_eq_true rfl, Nat.le_of_ble_eq_true rfl⟩, hw_imX0_isShutIn, hw_seX0_isShutIn⟩ (g_preV hS hZ hP hV [.int mo] (id := 6 + u) (by omega) (sh_g x _ (by omega)) rfl) rfl rfl hl.1 rfl (lv_room (Nat.le_of_ble_eq_true rfl)) dX2_isClosed_16 ⟨Nat.le_of_ble_eq_true rfl, Nat.le_of_ble_eq_true rfl⟩) hV (fun H locs hP hV => ?_)
  refine g_mqx (by subst eg; simp [orE, x_1, x_2, tn_nI (show u < 2 ^ 31 by omega)]) ?_
  exact g_zret hx hb hr hlk hS hZ hP hV (Nat.le_of_ble_eq_true rfl) (Nat.le_of_ble_eq_true rfl) dX2_isClosed_19 (bI_nar _) (by subst eg; simp [bI, x_1, x_2, tn_nI (show u < 2 ^ 31 by omega)]) (by rfl)
set_option maxHeartbeats 4000000 in
set_option maxRecDepth 100000 in
theorem c_X2_touches (l : Launch) (hlf : l.stackTraces = false) (x : Cx) (M : Nat → Nat → Int32) (cn gn dn : Nat) (pn : Nat → Nat) (a q g : Int32) (hO : OkO M cn gn dn pn) : vx_Met l yX2_touches wsX2_touches ({ frames := 8, cells := 3, slots := 18, locals := 133 }) (gP x M [.ref (xa x 0), .int a, .int q, .int g]) (gQx x (orE (erPc cn pn a q) (erC gn g)) (some (.int (bI (mtO (rX M (tn a)) (rY M (tn a)) (tn q) (M (6 + tn g) 0) (M (6 + tn g) 1) (M (6 + tn g) 2) (M (6 + tn g) 3))))) M) (gX x (orE (erPc cn pn a q) (erC gn g)) M) 3 18 (gF x) := by
  refine g_metx (cc := cX2_touches) (maxL := 4) (ret := some .boolean) (by decide) rfl (Nat.le_of_ble_eq_true rfl) ?_
  intro p e s m below meth c hx hb hr hml hts hown hlk ht hS hZ hP hV ls hl
  have hl : lv_has ls 4 [(0, .ref (xa x 0)), (1, .int a), (2, .int q), (3, .int g)] := hl
  have hw_f16 := hts (.fieldLink RX2 16 "CableOffice" "routes" "[LCableOffice$Route;") (by decide +kernel)
  have hinX2 : ∀ w ∈ wsX20, w ∈ wsX2_touches := by decide +kernel
  have hw_f37 := hts (.fieldLink RX2 37 "CableOffice" "grounds" "[LCableOffice$Ground;") (by decide +kernel)
  have hw_iX1 := hts (.initialized RX1) (by decide +kernel)
  have hw_imX1_pieceMeets := hts (.instanceMethod yX1_pieceMeets) (by decide +kernel)
  have hw_seX1_pieceMeets := hts (.selects RX1 yX1_pieceMeets yX1_pieceMeets) (by decide +kernel)
  have hc8 := hO.c8
  have hg5 := hO.g5
  have hd8 := hO.d8
  refine lv_aload_n hx hb dX2_touches_0 rfl (lv_at hl 0 rfl) ?_
  refine lv_iload_n hx hb dX2_touches_1 rfl (lv_at hl 1 rfl) ?_
  refine lv_iload_n hx hb dX2_touches_2 rfl (lv_at hl 2 rfl) ?_
  refine g_xcall0 (vx_runV (As := [.int a, .int q]) (rest := []) ⟨hx, hb, hml, hown, hts⟩ (c_X2_demandPiece l hlf x M cn gn dn pn a q hO) (cwV 2 hts gX2_touches_X2_demandPiece rfl rfl rfl (by decide +kernel) ⟨Nat.le_of_ble_eq_true rfl, Nat.le_of_ble_eq_true rfl⟩) (g_preV hS hZ hP hV [.int a, .int q] (id := 0) (by decide) rfl rfl) rfl rfl hl.1 rfl (lv_room (Nat.le_of_ble_eq_true rfl)) dX2_touches_3 ⟨Nat.le_of_ble_eq_true rfl, Nat.le_of_ble_eq_true rfl⟩) hV (fun E ce q H locs hE hP hV h1 h2 h3 => g_xout ht hlk hS hZ (Nat.le_of_ble_eq_true rfl) (Nat.le_of_ble_eq_true rfl) (by simp [orE, hE]) rfl hP hV h1 h2 h3) (fun H locs x_1 hP hV => ?_)
  obtain ⟨j, k, hj, ea, hk, eb⟩ := erPc_none hO.c8 (fun i hi => hO.p7 hi) x_1
  rw [ea, eb] at hl
  have h7j := hO.p7 hj
  refine lv_aload_n hx hb dX2_touches_6 rfl (lv_at hl 0 rfl) ?_
  refine lv_iload_n hx hb dX2_touches_7 rfl (lv_at hl 3 rfl) ?_
  refine g_xcall0 (vx_runV (As := [.int g]) (rest := []) ⟨hx, hb, hml, hown, hts⟩ (c_X2_demandGround l hlf x M cn gn dn pn g hO) (cwV 1 hts gX2_touches_X2_demandGround rfl rfl rfl (by decide +kernel) ⟨Nat.le_of_ble_eq_true rfl, Nat.le_of_ble_eq_true rfl⟩) (g_preV hS hZ hP hV [.int g] (id := 0) (by decide) rfl rfl) rfl rfl hl.1 rfl (lv_room (Nat.le_of_ble_eq_true rfl)) dX2_touches_8 ⟨Nat.le_of_ble_eq_true rfl, Nat.le_of_ble_eq_true rfl⟩) hV (fun E ce q H locs hE hP hV h1 h2 h3 => g_xout ht hlk hS hZ (Nat.le_of_ble_eq_true rfl) (Nat.le_of_ble_eq_true rfl) (by simp [orE, hE, x_1]) rfl hP hV h1 h2 h3) (fun H locs x_2 hP hV => ?_)
  obtain ⟨u, hu, eg⟩ := erC_none (show gn ≤ 8 by omega) x_2
  rw [eg] at hl
  refine lv_aload_n hx hb dX2_touches_11 rfl (lv_at hl 0 rfl) ?_
  refine g_get (C := RX2) (T := TX2) (N := 9) (v := .ref (xa x 1)) hx hb hts hinX2 hown hS hP (id := 0) (by decide) rfl rfl 1 (by decide) hw_f16 rfl dX2_touches_12 ?_
  refine lv_iload_n hx hb dX2_touches_15 rfl (lv_at hl 1 rfl) ?_
  refine g_aaldR (j := j) hx hb hS hP rfl (by omega) dX2_touches_16 ?_
  refine lv_iload_n hx hb dX2_touches_17 rfl (lv_at hl 2 rfl) ?_
  refine lv_aload_n hx hb dX2_touches_18 rfl (lv_at hl 0 rfl) ?_
  refine g_get (C := RX2) (T := TX2) (N := 9) (v := .ref (xa x 5)) hx hb hts hinX2 hown hS hP (id := 0) (by decide) rfl rfl 6 (by decide) hw_f37 rfl dX2_touches_19 ?_
  refine lv_iload_n hx hb dX2_touches_22 rfl (lv_at hl 3 rfl) ?_
  refine g_aaldG (j := u) hx hb hS hP rfl (by omega) dX2_touches_23 ?_
  refine g_call1 (va_runVN (As := [.int (nI k), .ref (xa x (6 + u))]) (rest := []) ⟨hx, hb, hml, hown, hts⟩ (c_X1_pieceMeets l x M j k u (by omega) (by omega) (by omega)) ⟨va_cnB (host := RX2) 2 hts gX2_touches_X1_pieceMeets_n155 rfl rfl rfl (hS.2.2.2.2.1 _ (by decide +kernel)) hw_iX1 (by decide +kernel) ⟨Nat.le_of_ble_eq_true rfl, Nat.le_of_ble_eq_true rfl⟩, hw_imX1_pieceMeets, hw_seX1_pieceMeets⟩ (g_preV hS hZ hP hV [.int (nI k), .ref (xa x (6 + u))] (id := 11 + 3 * j) (by omega) (sh_r x _ (by omega)) rfl) rfl rfl hl.1 rfl (lv_room (Nat.le_of_ble_eq_true rfl)) dX2_touches_24 ⟨Nat.le_of_ble_eq_true rfl, Nat.le_of_ble_eq_true rfl⟩) hV (fun H locs hP hV => ?_)
  refine g_mqx (by subst ea; subst eb; subst eg; simp [orE, x_1, x_2, tn_nI (show j < 2 ^ 31 by omega), tn_nI (show k < 2 ^ 31 by omega), tn_nI (show u < 2 ^ 31 by omega)]) ?_
  exact g_zret hx hb hr hlk hS hZ hP hV (Nat.le_of_ble_eq_true rfl) (Nat.le_of_ble_eq_true rfl) dX2_touches_27 (bI_nar _) (by subst ea; subst eb; subst eg; simp [rX, rY, bI, x_1, x_2, tn_nI (show j < 2 ^ 31 by omega), tn_nI (show k < 2 ^ 31 by omega), tn_nI (show u < 2 ^ 31 by omega)]) (by rfl)
set_option maxHeartbeats 4000000 in
set_option maxRecDepth 100000 in
theorem c_X2_paid (l : Launch) (hlf : l.stackTraces = false) (x : Cx) (M : Nat → Nat → Int32) (cn gn dn : Nat) (pn : Nat → Nat) (g : Int32) (hO : OkO M cn gn dn pn) : vx_Met l yX2_paid wsX2_paid ({ frames := 7, cells := 1, slots := 6, locals := 111 }) (gP x M [.ref (xa x 0), .int g]) (gQx x (erC gn g) (some (.int (M (6 + tn g) 8))) M) (gX x (erC gn g) M) 1 6 (gF x) := by
  refine g_metx (cc := cX2_paid) (maxL := 2) (ret := some .int) (by decide) rfl (Nat.le_of_ble_eq_true rfl) ?_
  intro p e s m below meth c hx hb hr hml hts hown hlk ht hS hZ hP hV ls hl
  have hl : lv_has ls 2 [(0, .ref (xa x 0)), (1, .int g)] := hl
  have hw_f37 := hts (.fieldLink RX2 37 "CableOffice" "grounds" "[LCableOffice$Ground;") (by decide +kernel)
  have hinX2 : ∀ w ∈ wsX20, w ∈ wsX2_paid := by decide +kernel
  have hinX0 : ∀ w ∈ wsX00, w ∈ wsX2_paid := by decide +kernel
  have hc8 := hO.c8
  have hg5 := hO.g5
  have hd8 := hO.d8
  refine lv_aload_n hx hb dX2_paid_0 rfl (lv_at hl 0 rfl) ?_
  refine lv_iload_n hx hb dX2_paid_1 rfl (lv_at hl 1 rfl) ?_
  refine g_xcall0 (vx_runV (As := [.int g]) (rest := []) ⟨hx, hb, hml, hown, hts⟩ (c_X2_demandGround l hlf x M cn gn dn pn g hO) (cwV 1 hts gX2_paid_X2_demandGround rfl rfl rfl (by decide +kernel) ⟨Nat.le_of_ble_eq_true rfl, Nat.le_of_ble_eq_true rfl⟩) (g_preV hS hZ hP hV [.int g] (id := 0) (by decide) rfl rfl) rfl rfl hl.1 rfl (lv_room (Nat.le_of_ble_eq_true rfl)) dX2_paid_2 ⟨Nat.le_of_ble_eq_true rfl, Nat.le_of_ble_eq_true rfl⟩) hV (fun E ce q H locs hE hP hV h1 h2 h3 => g_xout ht hlk hS hZ (Nat.le_of_ble_eq_true rfl) (Nat.le_of_ble_eq_true rfl) (by exact hE) rfl hP hV h1 h2 h3) (fun H locs x_1 hP hV => ?_)
  obtain ⟨u, hu, eg⟩ := erC_none (show gn ≤ 8 by omega) x_1
  rw [eg] at hl
  refine lv_aload_n hx hb dX2_paid_5 rfl (lv_at hl 0 rfl) ?_
  refine g_get (C := RX2) (T := TX2) (N := 9) (v := .ref (xa x 5)) hx hb hts hinX2 hown hS hP (id := 0) (by decide) rfl rfl 6 (by decide) hw_f37 rfl dX2_paid_6 ?_
  refine lv_iload_n hx hb dX2_paid_9 rfl (lv_at hl 1 rfl) ?_
  refine g_aaldG (j := u) hx hb hS hP rfl (by omega) dX2_paid_10 ?_
  refine g_getN (C := RX0) (T := TX0) (N := 9) (host := RX2) (v := .int (M (6 + u) 8)) hx hb hts hinX0 hown hS hP (id := 6 + u) (by omega) (sh_g x _ (by omega)) rfl 8 (by decide) (by decide +kernel) rfl dX2_paid_11 ?_
  refine g_mqx (by assumption) ?_
  exact g_iret hx hb hr hlk hS hZ hP hV (Nat.le_of_ble_eq_true rfl) (Nat.le_of_ble_eq_true rfl) dX2_paid_14 (by subst eg; simp [bI, x_1, tn_nI (show u < 2 ^ 31 by omega)]) (by rfl)
set_option maxHeartbeats 4000000 in
set_option maxRecDepth 100000 in
theorem c_X2_lifted (l : Launch) (hlf : l.stackTraces = false) (x : Cx) (M : Nat → Nat → Int32) (cn gn dn : Nat) (pn : Nat → Nat) (a q : Int32) (hO : OkO M cn gn dn pn) : vx_Met l yX2_lifted wsX2_lifted ({ frames := 8, cells := 2, slots := 12, locals := 171 }) (gP x M [.ref (xa x 0), .int a, .int q]) (gQx x (erPc cn pn a q) (some (.int (bcI (liO M pn cn (tn a) (tn q))))) M) (gX x (erPc cn pn a q) M) 2 12 (gF x) := by
  refine g_metx (cc := cX2_lifted) (maxL := 3) (ret := some .int) (by decide) rfl (Nat.le_of_ble_eq_true rfl) ?_
  intro p e s m below meth c hx hb hr hml hts hown hlk ht hS hZ hP hV ls hl
  have hl : lv_has ls 3 [(0, .ref (xa x 0)), (1, .int a), (2, .int q)] := hl
  have hc8 := hO.c8
  have hg5 := hO.g5
  have hd8 := hO.d8
  refine lv_aload_n hx hb dX2_lifted_0 rfl (lv_at hl 0 rfl) ?_
  refine lv_iload_n hx hb dX2_lifted_1 rfl (lv_at hl 1 rfl) ?_
  refine lv_iload_n hx hb dX2_lifted_2 rfl (lv_at hl 2 rfl) ?_
  refine g_xcall0 (vx_runV (As := [.int a, .int q]) (rest := []) ⟨hx, hb, hml, hown, hts⟩ (c_X2_demandPiece l hlf x M cn gn dn pn a q hO) (cwV 2 hts gX2_lifted_X2_demandPiece rfl rfl rfl (by decide +kernel) ⟨Nat.le_of_ble_eq_true rfl, Nat.le_of_ble_eq_true rfl⟩) (g_preV hS hZ hP hV [.int a, .int q] (id := 0) (by decide) rfl rfl) rfl rfl hl.1 rfl (lv_room (Nat.le_of_ble_eq_true rfl)) dX2_lifted_3 ⟨Nat.le_of_ble_eq_true rfl, Nat.le_of_ble_eq_true rfl⟩) hV (fun E ce q H locs hE hP hV h1 h2 h3 => g_xout ht hlk hS hZ (Nat.le_of_ble_eq_true rfl) (Nat.le_of_ble_eq_true rfl) (by exact hE) rfl hP hV h1 h2 h3) (fun H locs x_1 hP hV => ?_)
  obtain ⟨j, k, hj, ea, hk, eb⟩ := erPc_none hO.c8 (fun i hi => hO.p7 hi) x_1
  rw [ea, eb] at hl
  have h7j := hO.p7 hj
  refine lv_aload_n hx hb dX2_lifted_6 rfl (lv_at hl 0 rfl) ?_
  refine lv_iload_n hx hb dX2_lifted_7 rfl (lv_at hl 1 rfl) ?_
  refine lv_iload_n hx hb dX2_lifted_8 rfl (lv_at hl 2 rfl) ?_
  refine g_call1 (va_runV (As := [.int (nI j), .int (nI k)]) (rest := []) ⟨hx, hb, hml, hown, hts⟩ (c_X2_liftedWith l x M cn gn dn pn j k hO (by omega)) (cwV 2 hts gX2_lifted_X2_liftedWith rfl rfl rfl (by decide +kernel) ⟨Nat.le_of_ble_eq_true rfl, Nat.le_of_ble_eq_true rfl⟩) (g_preV hS hZ hP hV [.int (nI j), .int (nI k)] (id := 0) (by decide) rfl rfl) rfl rfl hl.1 rfl (lv_room (Nat.le_of_ble_eq_true rfl)) dX2_lifted_9 ⟨Nat.le_of_ble_eq_true rfl, Nat.le_of_ble_eq_true rfl⟩) hV (fun H locs hP hV => ?_)
  refine g_call1 (va_runS (As := [.long (lwA M pn j k (cn - (j + 1)))]) (rest := []) ⟨hx, hb, hml, hown, hts⟩ (c_J13_bitCount l x M (lwA M pn j k (cn - (j + 1)))) (va_cwS 1 hts gX2_lifted_J13_bitCount_95d88 rfl rfl rfl (by decide +kernel) ⟨Nat.le_of_ble_eq_true rfl, Nat.le_of_ble_eq_true rfl⟩) (g_preS hS hZ hP hV [.long (lwA M pn j k (cn - (j + 1)))]) rfl rfl hl.1 rfl (lv_room (Nat.le_of_ble_eq_true rfl)) dX2_lifted_12 ⟨Nat.le_of_ble_eq_true rfl, Nat.le_of_ble_eq_true rfl⟩) hV (fun H locs hP hV => ?_)
  refine g_mqx (by assumption) ?_
  exact g_iret hx hb hr hlk hS hZ hP hV (Nat.le_of_ble_eq_true rfl) (Nat.le_of_ble_eq_true rfl) dX2_lifted_15 (by subst ea; subst eb; simp [liO, bI, x_1, tn_nI (show j < 2 ^ 31 by omega), tn_nI (show k < 2 ^ 31 by omega)]) (by rfl)
set_option maxHeartbeats 4000000 in
set_option maxRecDepth 100000 in
theorem c_X2_cost (l : Launch) (hlf : l.stackTraces = false) (x : Cx) (M : Nat → Nat → Int32) (cn gn dn : Nat) (pn : Nat → Nat) (a q mo : Int32) (hO : OkO M cn gn dn pn) : vx_Met l yX2_cost wsX2_cost ({ frames := 8, cells := 3, slots := 18, locals := 171 }) (gP x M [.ref (xa x 0), .int a, .int q, .int mo]) (gQx x (orE (erPc cn pn a q) (erMo mo)) (some (.int (if psO M pn (liO M pn cn (tn a) (tn q)) cn = true then coO M pn cn (liO M pn cn (tn a) (tn q)) mo gn else -1))) M) (gX x (orE (erPc cn pn a q) (erMo mo)) M) 3 18 (gF x) := by
  refine g_metx (cc := cX2_cost) (maxL := 6) (ret := some .int) (by decide) rfl (Nat.le_of_ble_eq_true rfl) ?_
  intro p e s m below meth c hx hb hr hml hts hown hlk ht hS hZ hP hV ls hl
  have hl : lv_has ls 6 [(0, .ref (xa x 0)), (1, .int a), (2, .int q), (3, .int mo)] := hl
  have hc8 := hO.c8
  have hg5 := hO.g5
  have hd8 := hO.d8
  refine lv_aload_n hx hb dX2_cost_0 rfl (lv_at hl 0 rfl) ?_
  refine lv_iload_n hx hb dX2_cost_1 rfl (lv_at hl 1 rfl) ?_
  refine lv_iload_n hx hb dX2_cost_2 rfl (lv_at hl 2 rfl) ?_
  refine g_xcall0 (vx_runV (As := [.int a, .int q]) (rest := []) ⟨hx, hb, hml, hown, hts⟩ (c_X2_demandPiece l hlf x M cn gn dn pn a q hO) (cwV 2 hts gX2_cost_X2_demandPiece rfl rfl rfl (by decide +kernel) ⟨Nat.le_of_ble_eq_true rfl, Nat.le_of_ble_eq_true rfl⟩) (g_preV hS hZ hP hV [.int a, .int q] (id := 0) (by decide) rfl rfl) rfl rfl hl.1 rfl (lv_room (Nat.le_of_ble_eq_true rfl)) dX2_cost_3 ⟨Nat.le_of_ble_eq_true rfl, Nat.le_of_ble_eq_true rfl⟩) hV (fun E ce q H locs hE hP hV h1 h2 h3 => g_xout ht hlk hS hZ (Nat.le_of_ble_eq_true rfl) (Nat.le_of_ble_eq_true rfl) (by simp [orE, hE]) rfl hP hV h1 h2 h3) (fun H locs x_1 hP hV => ?_)
  obtain ⟨j, k, hj, ea, hk, eb⟩ := erPc_none hO.c8 (fun i hi => hO.p7 hi) x_1
  rw [ea, eb] at hl
  have h7j := hO.p7 hj
  refine lv_iload_n hx hb dX2_cost_6 rfl (lv_at hl 3 rfl) ?_
  refine g_xcall0 (vx_runS (As := [.int mo]) (rest := []) ⟨hx, hb, hml, hown, hts⟩ (c_X2_demandMonth l hlf x M mo) (va_cwS 1 hts gX2_cost_X2_demandMonth rfl rfl rfl (by decide +kernel) ⟨Nat.le_of_ble_eq_true rfl, Nat.le_of_ble_eq_true rfl⟩) (g_preS hS hZ hP hV [.int mo]) rfl rfl hl.1 rfl (lv_room (Nat.le_of_ble_eq_true rfl)) dX2_cost_7 ⟨Nat.le_of_ble_eq_true rfl, Nat.le_of_ble_eq_true rfl⟩) hV (fun E ce q H locs hE hP hV h1 h2 h3 => g_xout ht hlk hS hZ (Nat.le_of_ble_eq_true rfl) (Nat.le_of_ble_eq_true rfl) (by simp [orE, hE, x_1]) rfl hP hV h1 h2 h3) (fun H locs x_2 hP hV => ?_)
  refine lv_aload_n hx hb dX2_cost_10 rfl (lv_at hl 0 rfl) ?_
  refine lv_iload_n hx hb dX2_cost_11 rfl (lv_at hl 1 rfl) ?_
  refine lv_iload_n hx hb dX2_cost_12 rfl (lv_at hl 2 rfl) ?_
  refine g_call1 (va_runV (As := [.int (nI j), .int (nI k)]) (rest := []) ⟨hx, hb, hml, hown, hts⟩ (c_X2_liftedWith l x M cn gn dn pn j k hO (by omega)) (cwV 2 hts gX2_cost_X2_liftedWith rfl rfl rfl (by decide +kernel) ⟨Nat.le_of_ble_eq_true rfl, Nat.le_of_ble_eq_true rfl⟩) (g_preV hS hZ hP hV [.int (nI j), .int (nI k)] (id := 0) (by decide) rfl rfl) rfl rfl hl.1 rfl (lv_room (Nat.le_of_ble_eq_true rfl)) dX2_cost_13 ⟨Nat.le_of_ble_eq_true rfl, Nat.le_of_ble_eq_true rfl⟩) hV (fun H locs hP hV => ?_)
  refine lv_lstore (lv' := [(4, .long (lwA M pn j k (cn - (j + 1)))), (0, .ref (xa x 0)), (1, .int (nI j)), (2, .int (nI k)), (3, .int mo)]) hx hb dX2_cost_16 hl (by decide) rfl (fun ls hl => ?_)
  refine lv_aload_n hx hb dX2_cost_18 rfl (lv_at hl 1 rfl) ?_
  refine lv_lload hx hb dX2_cost_19 (lv_at hl 0 rfl) ?_
  refine g_call1 (va_runV (As := [.long (lwA M pn j k (cn - (j + 1)))]) (rest := []) ⟨hx, hb, hml, hown, hts⟩ (c_X2_isPossible l x M cn gn dn pn (lwA M pn j k (cn - (j + 1))) hO) (cwV 1 hts gX2_cost_X2_isPossible rfl rfl rfl (by decide +kernel) ⟨Nat.le_of_ble_eq_true rfl, Nat.le_of_ble_eq_true rfl⟩) (g_preV hS hZ hP hV [.long (lwA M pn j k (cn - (j + 1)))] (id := 0) (by decide) rfl rfl) rfl rfl hl.1 rfl (lv_room (Nat.le_of_ble_eq_true rfl)) dX2_cost_21 ⟨Nat.le_of_ble_eq_true rfl, Nat.le_of_ble_eq_true rfl⟩) hV (fun H locs hP hV => ?_)
  refine h_if_eq_b (tgt := 37) hx hb dX2_cost_24 (by decide) (fun c_3 => ?_) (fun c_3 => ?_)
  · -- taken
    refine lv_iconst (v := -1) hx hb dX2_cost_37 (by decide) ?_
    refine g_mqx (by subst ea; subst eb; simp [orE, x_1, x_2, c_3, tn_nI (show j < 2 ^ 31 by omega), tn_nI (show k < 2 ^ 31 by omega)]) ?_
    exact g_iret hx hb hr hlk hS hZ hP hV (Nat.le_of_ble_eq_true rfl) (Nat.le_of_ble_eq_true rfl) dX2_cost_38 (by subst ea; subst eb; simp [liO, bI, x_1, x_2, c_3, tn_nI (show j < 2 ^ 31 by omega), tn_nI (show k < 2 ^ 31 by omega)]) (by rfl)
  · -- on
    refine lv_aload_n hx hb dX2_cost_27 rfl (lv_at hl 1 rfl) ?_
    refine lv_lload hx hb dX2_cost_28 (lv_at hl 0 rfl) ?_
    refine lv_iload_n hx hb dX2_cost_30 rfl (lv_at hl 4 rfl) ?_
    refine g_call1 (va_runV (As := [.long (lwA M pn j k (cn - (j + 1))), .int mo]) (rest := []) ⟨hx, hb, hml, hown, hts⟩ (c_X2_costOf l x M cn gn dn pn (lwA M pn j k (cn - (j + 1))) mo hO) (cwV 2 hts gX2_cost_X2_costOf rfl rfl rfl (by decide +kernel) ⟨Nat.le_of_ble_eq_true rfl, Nat.le_of_ble_eq_true rfl⟩) (g_preV hS hZ hP hV [.long (lwA M pn j k (cn - (j + 1))), .int mo] (id := 0) (by decide) rfl rfl) rfl rfl hl.1 rfl (lv_room (Nat.le_of_ble_eq_true rfl)) dX2_cost_31 ⟨Nat.le_of_ble_eq_true rfl, Nat.le_of_ble_eq_true rfl⟩) hV (fun H locs hP hV => ?_)
    refine lv_goto (tgt := 38) hx hb dX2_cost_34 (by decide) ?_
    refine g_mqx (by subst ea; subst eb; simp [orE, x_1, x_2, c_3, tn_nI (show j < 2 ^ 31 by omega), tn_nI (show k < 2 ^ 31 by omega)]) ?_
    exact g_iret hx hb hr hlk hS hZ hP hV (Nat.le_of_ble_eq_true rfl) (Nat.le_of_ble_eq_true rfl) dX2_cost_38 (by subst ea; subst eb; simp [liO, bI, x_1, x_2, c_3, tn_nI (show j < 2 ^ 31 by omega), tn_nI (show k < 2 ^ 31 by omega)]) (by rfl)
set_option maxHeartbeats 4000000 in
set_option maxRecDepth 100000 in
theorem c_X2_repair (l : Launch) (hlf : l.stackTraces = false) (x : Cx) (M : Nat → Nat → Int32) (cn gn dn : Nat) (pn : Nat → Nat) (a q mo : Int32) (hO : OkO M cn gn dn pn) : vx_Met l yX2_repair wsX2_repair ({ frames := 8, cells := 4, slots := 24, locals := 171 }) (gP x M [.ref (xa x 0), .int a, .int q, .int mo]) (gQx x (erRe M cn pn a q mo) (some (.int (coO (pgM (up2 M 0 8 (M 0 8 + 1)) pn cn (liO M pn cn (tn a) (tn q)) mo gn) pn cn (liO M pn cn (tn a) (tn q)) mo gn))) (pgM (up2 M 0 8 (M 0 8 + 1)) pn cn (liO M pn cn (tn a) (tn q)) mo gn)) (gX x (erRe M cn pn a q mo) M) 4 24 (gF x) := by
  refine g_metx (cc := cX2_repair) (maxL := 6) (ret := some .int) (by decide) rfl (Nat.le_of_ble_eq_true rfl) ?_
  intro p e s m below meth c hx hb hr hml hts hown hlk ht hS hZ hP hV ls hl
  have hl : lv_has ls 6 [(0, .ref (xa x 0)), (1, .int a), (2, .int q), (3, .int mo)] := hl
  have hw_f44 := hts (.fieldLink RX2 44 "CableOffice" "repairCount" "I") (by decide +kernel)
  have hinX2 : ∀ w ∈ wsX20, w ∈ wsX2_repair := by decide +kernel
  have hw_k59 := hts (.classLink RX2 59 "java/lang/IllegalStateException") (by decide +kernel)
  have hw_i59 := hts (.initialized "java/lang/IllegalStateException") (by decide +kernel)
  have hat63 := exc_hat (ic := 63) (E := eI) hS (by decide +kernel) exc_h2_63 (fun w hw => hts w (List.mem_cons_of_mem _ (List.mem_append_left _ (List.mem_append_left _ (List.mem_append_right _ hw)))))
  have hc8 := hO.c8
  have hg5 := hO.g5
  have hd8 := hO.d8
  refine lv_aload_n hx hb dX2_repair_0 rfl (lv_at hl 0 rfl) ?_
  refine lv_iload_n hx hb dX2_repair_1 rfl (lv_at hl 1 rfl) ?_
  refine lv_iload_n hx hb dX2_repair_2 rfl (lv_at hl 2 rfl) ?_
  refine g_xcall0 (vx_runV (As := [.int a, .int q]) (rest := []) ⟨hx, hb, hml, hown, hts⟩ (c_X2_demandPiece l hlf x M cn gn dn pn a q hO) (cwV 2 hts gX2_repair_X2_demandPiece rfl rfl rfl (by decide +kernel) ⟨Nat.le_of_ble_eq_true rfl, Nat.le_of_ble_eq_true rfl⟩) (g_preV hS hZ hP hV [.int a, .int q] (id := 0) (by decide) rfl rfl) rfl rfl hl.1 rfl (lv_room (Nat.le_of_ble_eq_true rfl)) dX2_repair_3 ⟨Nat.le_of_ble_eq_true rfl, Nat.le_of_ble_eq_true rfl⟩) hV (fun E ce q H locs hE hP hV h1 h2 h3 => g_xout ht hlk hS hZ (Nat.le_of_ble_eq_true rfl) (Nat.le_of_ble_eq_true rfl) (by simp [erRe, liO, orE, hE]) rfl hP hV h1 h2 h3) (fun H locs x_1 hP hV => ?_)
  obtain ⟨j, k, hj, ea, hk, eb⟩ := erPc_none hO.c8 (fun i hi => hO.p7 hi) x_1
  rw [ea, eb] at hl
  have h7j := hO.p7 hj
  refine lv_iload_n hx hb dX2_repair_6 rfl (lv_at hl 3 rfl) ?_
  refine g_xcall0 (vx_runS (As := [.int mo]) (rest := []) ⟨hx, hb, hml, hown, hts⟩ (c_X2_demandMonth l hlf x M mo) (va_cwS 1 hts gX2_repair_X2_demandMonth rfl rfl rfl (by decide +kernel) ⟨Nat.le_of_ble_eq_true rfl, Nat.le_of_ble_eq_true rfl⟩) (g_preS hS hZ hP hV [.int mo]) rfl rfl hl.1 rfl (lv_room (Nat.le_of_ble_eq_true rfl)) dX2_repair_7 ⟨Nat.le_of_ble_eq_true rfl, Nat.le_of_ble_eq_true rfl⟩) hV (fun E ce q H locs hE hP hV h1 h2 h3 => g_xout ht hlk hS hZ (Nat.le_of_ble_eq_true rfl) (Nat.le_of_ble_eq_true rfl) (by simp [erRe, liO, orE, hE, x_1]) rfl hP hV h1 h2 h3) (fun H locs x_2 hP hV => ?_)
  refine lv_aload_n hx hb dX2_repair_10 rfl (lv_at hl 0 rfl) ?_
  refine lv_iload_n hx hb dX2_repair_11 rfl (lv_at hl 1 rfl) ?_
  refine lv_iload_n hx hb dX2_repair_12 rfl (lv_at hl 2 rfl) ?_
  refine g_call1 (va_runV (As := [.int (nI j), .int (nI k)]) (rest := []) ⟨hx, hb, hml, hown, hts⟩ (c_X2_liftedWith l x M cn gn dn pn j k hO (by omega)) (cwV 2 hts gX2_repair_X2_liftedWith rfl rfl rfl (by decide +kernel) ⟨Nat.le_of_ble_eq_true rfl, Nat.le_of_ble_eq_true rfl⟩) (g_preV hS hZ hP hV [.int (nI j), .int (nI k)] (id := 0) (by decide) rfl rfl) rfl rfl hl.1 rfl (lv_room (Nat.le_of_ble_eq_true rfl)) dX2_repair_13 ⟨Nat.le_of_ble_eq_true rfl, Nat.le_of_ble_eq_true rfl⟩) hV (fun H locs hP hV => ?_)
  refine lv_lstore (lv' := [(4, .long (lwA M pn j k (cn - (j + 1)))), (0, .ref (xa x 0)), (1, .int (nI j)), (2, .int (nI k)), (3, .int mo)]) hx hb dX2_repair_16 hl (by decide) rfl (fun ls hl => ?_)
  refine lv_aload_n hx hb dX2_repair_18 rfl (lv_at hl 1 rfl) ?_
  refine g_get (C := RX2) (T := TX2) (N := 9) (v := .int (M 0 8)) hx hb hts hinX2 hown hS hP (id := 0) (by decide) rfl rfl 8 (by decide) hw_f44 rfl dX2_repair_19 ?_
  refine lv_sipush (v := 500) hx hb dX2_repair_22 (by decide) ?_
  refine lv_icmp_ge (tgt := 37) hx hb dX2_repair_25 (by decide) (fun c_3 => ?_) (fun c_3 => ?_)
  · -- taken
    exact g_throw (E := eI) (ik := 59) (is := 177) (ic := 63) (text := _) hx hb ht hlf hown (by decide +kernel) hw_k59 hw_i59 (List.mem_of_getElem? (i := 5) rfl) hat63 exc_ot_63 hlk hS hZ hP hV (hl.1.trans hml.symm) dX2_repair_37 dX2_repair_40 dX2_repair_41 dX2_repair_43 dX2_repair_46 (Nat.le_of_ble_eq_true rfl) (Nat.le_of_ble_eq_true rfl) (Nat.le_of_ble_eq_true rfl) (Nat.le_of_ble_eq_true rfl) (Nat.le_of_ble_eq_true rfl) (Nat.le_of_ble_eq_true rfl) (by subst ea; subst eb; simp [orE, erRe, liO, x_1, x_2, c_3, tn_nI (show j < 2 ^ 31 by omega), tn_nI (show k < 2 ^ 31 by omega)]) rfl
  · -- on
    refine lv_aload_n hx hb dX2_repair_28 rfl (lv_at hl 1 rfl) ?_
    refine lv_lload hx hb dX2_repair_29 (lv_at hl 0 rfl) ?_
    refine g_call1 (va_runV (As := [.long (lwA M pn j k (cn - (j + 1)))]) (rest := []) ⟨hx, hb, hml, hown, hts⟩ (c_X2_isPossible l x M cn gn dn pn (lwA M pn j k (cn - (j + 1))) hO) (cwV 1 hts gX2_repair_X2_isPossible rfl rfl rfl (by decide +kernel) ⟨Nat.le_of_ble_eq_true rfl, Nat.le_of_ble_eq_true rfl⟩) (g_preV hS hZ hP hV [.long (lwA M pn j k (cn - (j + 1)))] (id := 0) (by decide) rfl rfl) rfl rfl hl.1 rfl (lv_room (Nat.le_of_ble_eq_true rfl)) dX2_repair_31 ⟨Nat.le_of_ble_eq_true rfl, Nat.le_of_ble_eq_true rfl⟩) hV (fun H locs hP hV => ?_)
    refine h_if_ne_b (tgt := 47) hx hb dX2_repair_34 (by decide) (fun c_4 => ?_) (fun c_4 => ?_)
    · -- taken
      refine lv_aload_n hx hb dX2_repair_47 rfl (lv_at hl 1 rfl) ?_
      refine lv_dup hx hb dX2_repair_48 rfl ?_
      refine g_get (C := RX2) (T := TX2) (N := 9) (v := .int (M 0 8)) hx hb hts hinX2 hown hS hP (id := 0) (by decide) rfl rfl 8 (by decide) hw_f44 rfl dX2_repair_49 ?_
      refine lv_iconst (v := 1) hx hb dX2_repair_52 (by decide) ?_
      refine lv_iadd hx hb dX2_repair_53 ?_
      refine g_put (C := RX2) (T := TX2) (N := 9) hx hb hts hinX2 tyX2 tyX2_ok nmX2 hown hS hP hV (id := 0) (by decide) rfl rfl 8 (by decide) hw_f44 rfl (by decide +kernel) (Nat.le_of_ble_eq_true rfl) rfl dX2_repair_54 (fun H locs hP hV => ?_)
      have hO8 : OkO (up2 M 0 8 ((M 0 8) + 1)) cn gn dn pn := hO.up8
      refine lv_aload_n hx hb dX2_repair_57 rfl (lv_at hl 1 rfl) ?_
      refine lv_lload hx hb dX2_repair_58 (lv_at hl 0 rfl) ?_
      refine lv_iload_n hx hb dX2_repair_60 rfl (lv_at hl 4 rfl) ?_
      refine g_call0 (va_runV (As := [.long (lwA M pn j k (cn - (j + 1))), .int mo]) (rest := []) ⟨hx, hb, hml, hown, hts⟩ (c_X2_payGrounds l x (up2 M 0 8 ((M 0 8) + 1)) cn gn dn pn (lwA M pn j k (cn - (j + 1))) mo hO8) (cwV 2 hts gX2_repair_X2_payGrounds rfl rfl rfl (by decide +kernel) ⟨Nat.le_of_ble_eq_true rfl, Nat.le_of_ble_eq_true rfl⟩) (g_preV hS hZ hP hV [.long (lwA M pn j k (cn - (j + 1))), .int mo] (id := 0) (by decide) rfl rfl) rfl rfl hl.1 rfl (lv_room (Nat.le_of_ble_eq_true rfl)) dX2_repair_61 ⟨Nat.le_of_ble_eq_true rfl, Nat.le_of_ble_eq_true rfl⟩) hV (fun H locs hP hV => ?_)
      have hO9 : OkO (pgM (up2 M 0 8 ((M 0 8) + 1)) pn cn (lwA M pn j k (cn - (j + 1))) mo gn) cn gn dn pn := pgM_ok hO8 gn (Nat.le_refl _)
      refine lv_aload_n hx hb dX2_repair_64 rfl (lv_at hl 1 rfl) ?_
      refine lv_lload hx hb dX2_repair_65 (lv_at hl 0 rfl) ?_
      refine lv_iload_n hx hb dX2_repair_67 rfl (lv_at hl 4 rfl) ?_
      refine g_call1 (va_runV (As := [.long (lwA M pn j k (cn - (j + 1))), .int mo]) (rest := []) ⟨hx, hb, hml, hown, hts⟩ (c_X2_costOf l x (pgM (up2 M 0 8 ((M 0 8) + 1)) pn cn (lwA M pn j k (cn - (j + 1))) mo gn) cn gn dn pn (lwA M pn j k (cn - (j + 1))) mo hO9) (cwV 2 hts gX2_repair_X2_costOf rfl rfl rfl (by decide +kernel) ⟨Nat.le_of_ble_eq_true rfl, Nat.le_of_ble_eq_true rfl⟩) (g_preV hS hZ hP hV [.long (lwA M pn j k (cn - (j + 1))), .int mo] (id := 0) (by decide) rfl rfl) rfl rfl hl.1 rfl (lv_room (Nat.le_of_ble_eq_true rfl)) dX2_repair_68 ⟨Nat.le_of_ble_eq_true rfl, Nat.le_of_ble_eq_true rfl⟩) hV (fun H locs hP hV => ?_)
      refine g_mqx (by subst ea; subst eb; simp [orE, erRe, liO, x_1, x_2, c_3, c_4, tn_nI (show j < 2 ^ 31 by omega), tn_nI (show k < 2 ^ 31 by omega)]) ?_
      exact g_iret hx hb hr hlk hS hZ hP hV (Nat.le_of_ble_eq_true rfl) (Nat.le_of_ble_eq_true rfl) dX2_repair_71 (by subst ea; subst eb; simp [liO, bI, x_1, x_2, c_3, c_4, tn_nI (show j < 2 ^ 31 by omega), tn_nI (show k < 2 ^ 31 by omega)]) (by subst ea; subst eb; rw [tn_nI (show j < 2 ^ 31 by omega), tn_nI (show k < 2 ^ 31 by omega)]; rfl)
    · -- on
      exact g_throw (E := eI) (ik := 59) (is := 177) (ic := 63) (text := _) hx hb ht hlf hown (by decide +kernel) hw_k59 hw_i59 (List.mem_of_getElem? (i := 5) rfl) hat63 exc_ot_63 hlk hS hZ hP hV (hl.1.trans hml.symm) dX2_repair_37 dX2_repair_40 dX2_repair_41 dX2_repair_43 dX2_repair_46 (Nat.le_of_ble_eq_true rfl) (Nat.le_of_ble_eq_true rfl) (Nat.le_of_ble_eq_true rfl) (Nat.le_of_ble_eq_true rfl) (Nat.le_of_ble_eq_true rfl) (Nat.le_of_ble_eq_true rfl) (by subst ea; subst eb; simp [orE, erRe, liO, x_1, x_2, c_3, c_4, tn_nI (show j < 2 ^ 31 by omega), tn_nI (show k < 2 ^ 31 by omega)]) rfl
