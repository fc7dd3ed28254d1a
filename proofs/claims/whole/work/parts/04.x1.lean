set_option maxHeartbeats 4000000 in
set_option maxRecDepth 100000 in
theorem c_X1_width (l : Launch) (x : Cx) (M : Nat → Nat → Int32) (i k : Nat) (hi : i < 9) (hk : k + 1 < 8) : Met l yX1_width wsX1_width ({ frames := 0, cells := 0, slots := 0, locals := 0 }) (gP x M [.ref (xa x (11 + 3 * i)), .int (nI k)]) (gQ x (some (.int (wd (M (11 + 3 * i + 1)) k))) M) 0 0 (gF x) := by
  refine g_met (cc := cX1_width) (maxL := 2) (ret := some .int) (by decide) rfl (Nat.le_of_ble_eq_true rfl) ?_
  intro p e s m below meth c hx hb hr hml hts hown hlk hS hZ hP hV ls hl
  have hl : lv_has ls 2 [(0, .ref (xa x (11 + 3 * i))), (1, .int (nI k))] := hl
  have hw_f9 := hts (.fieldLink RX1 9 "CableOffice$Route" "x" "[I") (by decide +kernel)
  have hinX1 : ∀ w ∈ wsX10, w ∈ wsX1_width := by decide +kernel
  refine lv_aload_n hx hb dX1_width_0 rfl (lv_at hl 0 rfl) ?_
  refine g_get (C := RX1) (T := TX1) (N := 3) (v := .ref (xa x (11 + 3 * i + 1))) hx hb hts hinX1 hown hS hP (id := 11 + 3 * i) (by omega) (sh_r x _ (by omega)) rfl 0 (by decide) hw_f9 rfl dX1_width_1 ?_
  refine lv_iload_n hx hb dX1_width_4 rfl (lv_at hl 1 rfl) ?_
  refine lv_iconst (v := 1) hx hb dX1_width_5 (by decide) ?_
  refine h_iadd (v := nI (k + 1)) hx hb dX1_width_6 (nI_add (k) (1)) ?_
  refine g_iald (j := k + 1) hx hb hS hP (id := 11 + 3 * i + 1) (by omega) ((fun r => sh_x x r (by omega)) _) (by decide) rfl (by omega) dX1_width_7 ?_
  refine lv_aload_n hx hb dX1_width_8 rfl (lv_at hl 0 rfl) ?_
  refine g_get (C := RX1) (T := TX1) (N := 3) (v := .ref (xa x (11 + 3 * i + 1))) hx hb hts hinX1 hown hS hP (id := 11 + 3 * i) (by omega) (sh_r x _ (by omega)) rfl 0 (by decide) hw_f9 rfl dX1_width_9 ?_
  refine lv_iload_n hx hb dX1_width_12 rfl (lv_at hl 1 rfl) ?_
  refine g_iald (j := k) hx hb hS hP (id := 11 + 3 * i + 1) (by omega) ((fun r => sh_x x r (by omega)) _) (by decide) rfl (by omega) dX1_width_13 ?_
  refine lv_isub hx hb dX1_width_14 ?_
  exact g_iret hx hb hr hlk hS hZ hP hV (Nat.le_of_ble_eq_true rfl) (Nat.le_of_ble_eq_true rfl) dX1_width_15 (by rfl) (by rfl)
set_option maxHeartbeats 4000000 in
set_option maxRecDepth 100000 in
theorem c_X1_height (l : Launch) (x : Cx) (M : Nat → Nat → Int32) (i k : Nat) (hi : i < 9) (hk : k + 1 < 8) : Met l yX1_height wsX1_height ({ frames := 0, cells := 0, slots := 0, locals := 0 }) (gP x M [.ref (xa x (11 + 3 * i)), .int (nI k)]) (gQ x (some (.int (wd (M (11 + 3 * i + 2)) k))) M) 0 0 (gF x) := by
  refine g_met (cc := cX1_height) (maxL := 2) (ret := some .int) (by decide) rfl (Nat.le_of_ble_eq_true rfl) ?_
  intro p e s m below meth c hx hb hr hml hts hown hlk hS hZ hP hV ls hl
  have hl : lv_has ls 2 [(0, .ref (xa x (11 + 3 * i))), (1, .int (nI k))] := hl
  have hw_f15 := hts (.fieldLink RX1 15 "CableOffice$Route" "y" "[I") (by decide +kernel)
  have hinX1 : ∀ w ∈ wsX10, w ∈ wsX1_height := by decide +kernel
  refine lv_aload_n hx hb dX1_height_0 rfl (lv_at hl 0 rfl) ?_
  refine g_get (C := RX1) (T := TX1) (N := 3) (v := .ref (xa x (11 + 3 * i + 2))) hx hb hts hinX1 hown hS hP (id := 11 + 3 * i) (by omega) (sh_r x _ (by omega)) rfl 1 (by decide) hw_f15 rfl dX1_height_1 ?_
  refine lv_iload_n hx hb dX1_height_4 rfl (lv_at hl 1 rfl) ?_
  refine lv_iconst (v := 1) hx hb dX1_height_5 (by decide) ?_
  refine h_iadd (v := nI (k + 1)) hx hb dX1_height_6 (nI_add (k) (1)) ?_
  refine g_iald (j := k + 1) hx hb hS hP (id := 11 + 3 * i + 2) (by omega) ((fun r => sh_y x r (by omega)) _) (by decide) rfl (by omega) dX1_height_7 ?_
  refine lv_aload_n hx hb dX1_height_8 rfl (lv_at hl 0 rfl) ?_
  refine g_get (C := RX1) (T := TX1) (N := 3) (v := .ref (xa x (11 + 3 * i + 2))) hx hb hts hinX1 hown hS hP (id := 11 + 3 * i) (by omega) (sh_r x _ (by omega)) rfl 1 (by decide) hw_f15 rfl dX1_height_9 ?_
  refine lv_iload_n hx hb dX1_height_12 rfl (lv_at hl 1 rfl) ?_
  refine g_iald (j := k) hx hb hS hP (id := 11 + 3 * i + 2) (by omega) ((fun r => sh_y x r (by omega)) _) (by decide) rfl (by omega) dX1_height_13 ?_
  refine lv_isub hx hb dX1_height_14 ?_
  exact g_iret hx hb hr hlk hS hZ hP hV (Nat.le_of_ble_eq_true rfl) (Nat.le_of_ble_eq_true rfl) dX1_height_15 (by rfl) (by rfl)
set_option maxHeartbeats 4000000 in
set_option maxRecDepth 100000 in
theorem c_X1_leftOf (l : Launch) (x : Cx) (M : Nat → Nat → Int32) (i k : Nat) (hi : i < 9) (hk : k + 1 < 8) : Met l yX1_leftOf wsX1_leftOf ({ frames := 1, cells := 0, slots := 0, locals := 21 }) (gP x M [.ref (xa x (11 + 3 * i)), .int (nI k)]) (gQ x (some (.int (loO (M (11 + 3 * i + 1)) k))) M) 0 0 (gF x) := by
  refine g_met (cc := cX1_leftOf) (maxL := 2) (ret := some .int) (by decide) rfl (Nat.le_of_ble_eq_true rfl) ?_
  intro p e s m below meth c hx hb hr hml hts hown hlk hS hZ hP hV ls hl
  have hl : lv_has ls 2 [(0, .ref (xa x (11 + 3 * i))), (1, .int (nI k))] := hl
  have hw_f9 := hts (.fieldLink RX1 9 "CableOffice$Route" "x" "[I") (by decide +kernel)
  have hinX1 : ∀ w ∈ wsX10, w ∈ wsX1_leftOf := by decide +kernel
  have hw_m35 := hts (.methodLink RX1 35 Lib.Math.min.name) (by decide +kernel)
  have hw_smin := hts (.static Lib.Math.min.name) (by decide +kernel)
  have hw_iMath := hts (.initialized "java/lang/Math") (by decide +kernel)
  have hw_cmin := hts (.code Lib.Math.min.name Lib.Math.min.code 2 (some .int)) (by decide +kernel)
  refine lv_aload_n hx hb dX1_leftOf_0 rfl (lv_at hl 0 rfl) ?_
  refine g_get (C := RX1) (T := TX1) (N := 3) (v := .ref (xa x (11 + 3 * i + 1))) hx hb hts hinX1 hown hS hP (id := 11 + 3 * i) (by omega) (sh_r x _ (by omega)) rfl 0 (by decide) hw_f9 rfl dX1_leftOf_1 ?_
  refine lv_iload_n hx hb dX1_leftOf_4 rfl (lv_at hl 1 rfl) ?_
  refine g_iald (j := k) hx hb hS hP (id := 11 + 3 * i + 1) (by omega) ((fun r => sh_x x r (by omega)) _) (by decide) rfl (by omega) dX1_leftOf_5 ?_
  refine lv_aload_n hx hb dX1_leftOf_6 rfl (lv_at hl 0 rfl) ?_
  refine g_get (C := RX1) (T := TX1) (N := 3) (v := .ref (xa x (11 + 3 * i + 1))) hx hb hts hinX1 hown hS hP (id := 11 + 3 * i) (by omega) (sh_r x _ (by omega)) rfl 0 (by decide) hw_f9 rfl dX1_leftOf_7 ?_
  refine lv_iload_n hx hb dX1_leftOf_10 rfl (lv_at hl 1 rfl) ?_
  refine lv_iconst (v := 1) hx hb dX1_leftOf_11 (by decide) ?_
  refine h_iadd (v := nI (k + 1)) hx hb dX1_leftOf_12 (nI_add (k) (1)) ?_
  refine g_iald (j := k + 1) hx hb hS hP (id := 11 + 3 * i + 1) (by omega) ((fun r => sh_x x r (by omega)) _) (by decide) rfl (by omega) dX1_leftOf_13 ?_
  refine h_min hx hb (hml.trans hl.1.symm) hown hw_m35 hw_smin hw_iMath hw_cmin (Nat.le_of_ble_eq_true rfl) (Nat.le_of_ble_eq_true rfl) (Nat.le_of_ble_eq_true rfl) (Nat.le_of_ble_eq_true rfl) dX1_leftOf_14 ?_
  exact g_iret hx hb hr hlk hS hZ hP hV (Nat.le_of_ble_eq_true rfl) (Nat.le_of_ble_eq_true rfl) dX1_leftOf_17 (by rfl) (by rfl)
set_option maxHeartbeats 4000000 in
set_option maxRecDepth 100000 in
theorem c_X1_rightOf (l : Launch) (x : Cx) (M : Nat → Nat → Int32) (i k : Nat) (hi : i < 9) (hk : k + 1 < 8) : Met l yX1_rightOf wsX1_rightOf ({ frames := 1, cells := 0, slots := 0, locals := 21 }) (gP x M [.ref (xa x (11 + 3 * i)), .int (nI k)]) (gQ x (some (.int (hiO (M (11 + 3 * i + 1)) k))) M) 0 0 (gF x) := by
  refine g_met (cc := cX1_rightOf) (maxL := 2) (ret := some .int) (by decide) rfl (Nat.le_of_ble_eq_true rfl) ?_
  intro p e s m below meth c hx hb hr hml hts hown hlk hS hZ hP hV ls hl
  have hl : lv_has ls 2 [(0, .ref (xa x (11 + 3 * i))), (1, .int (nI k))] := hl
  have hw_f9 := hts (.fieldLink RX1 9 "CableOffice$Route" "x" "[I") (by decide +kernel)
  have hinX1 : ∀ w ∈ wsX10, w ∈ wsX1_rightOf := by decide +kernel
  have hw_m41 := hts (.methodLink RX1 41 Lib.Math.max.name) (by decide +kernel)
  have hw_smax := hts (.static Lib.Math.max.name) (by decide +kernel)
  have hw_iMath := hts (.initialized "java/lang/Math") (by decide +kernel)
  have hw_cmax := hts (.code Lib.Math.max.name Lib.Math.max.code 2 (some .int)) (by decide +kernel)
  refine lv_aload_n hx hb dX1_rightOf_0 rfl (lv_at hl 0 rfl) ?_
  refine g_get (C := RX1) (T := TX1) (N := 3) (v := .ref (xa x (11 + 3 * i + 1))) hx hb hts hinX1 hown hS hP (id := 11 + 3 * i) (by omega) (sh_r x _ (by omega)) rfl 0 (by decide) hw_f9 rfl dX1_rightOf_1 ?_
  refine lv_iload_n hx hb dX1_rightOf_4 rfl (lv_at hl 1 rfl) ?_
  refine g_iald (j := k) hx hb hS hP (id := 11 + 3 * i + 1) (by omega) ((fun r => sh_x x r (by omega)) _) (by decide) rfl (by omega) dX1_rightOf_5 ?_
  refine lv_aload_n hx hb dX1_rightOf_6 rfl (lv_at hl 0 rfl) ?_
  refine g_get (C := RX1) (T := TX1) (N := 3) (v := .ref (xa x (11 + 3 * i + 1))) hx hb hts hinX1 hown hS hP (id := 11 + 3 * i) (by omega) (sh_r x _ (by omega)) rfl 0 (by decide) hw_f9 rfl dX1_rightOf_7 ?_
  refine lv_iload_n hx hb dX1_rightOf_10 rfl (lv_at hl 1 rfl) ?_
  refine lv_iconst (v := 1) hx hb dX1_rightOf_11 (by decide) ?_
  refine h_iadd (v := nI (k + 1)) hx hb dX1_rightOf_12 (nI_add (k) (1)) ?_
  refine g_iald (j := k + 1) hx hb hS hP (id := 11 + 3 * i + 1) (by omega) ((fun r => sh_x x r (by omega)) _) (by decide) rfl (by omega) dX1_rightOf_13 ?_
  refine h_max hx hb (hml.trans hl.1.symm) hown hw_m41 hw_smax hw_iMath hw_cmax (Nat.le_of_ble_eq_true rfl) (Nat.le_of_ble_eq_true rfl) (Nat.le_of_ble_eq_true rfl) (Nat.le_of_ble_eq_true rfl) dX1_rightOf_14 ?_
  exact g_iret hx hb hr hlk hS hZ hP hV (Nat.le_of_ble_eq_true rfl) (Nat.le_of_ble_eq_true rfl) dX1_rightOf_17 (by rfl) (by rfl)
set_option maxHeartbeats 4000000 in
set_option maxRecDepth 100000 in
theorem c_X1_lowOf (l : Launch) (x : Cx) (M : Nat → Nat → Int32) (i k : Nat) (hi : i < 9) (hk : k + 1 < 8) : Met l yX1_lowOf wsX1_lowOf ({ frames := 1, cells := 0, slots := 0, locals := 21 }) (gP x M [.ref (xa x (11 + 3 * i)), .int (nI k)]) (gQ x (some (.int (loO (M (11 + 3 * i + 2)) k))) M) 0 0 (gF x) := by
  refine g_met (cc := cX1_lowOf) (maxL := 2) (ret := some .int) (by decide) rfl (Nat.le_of_ble_eq_true rfl) ?_
  intro p e s m below meth c hx hb hr hml hts hown hlk hS hZ hP hV ls hl
  have hl : lv_has ls 2 [(0, .ref (xa x (11 + 3 * i))), (1, .int (nI k))] := hl
  have hw_f15 := hts (.fieldLink RX1 15 "CableOffice$Route" "y" "[I") (by decide +kernel)
  have hinX1 : ∀ w ∈ wsX10, w ∈ wsX1_lowOf := by decide +kernel
  have hw_m35 := hts (.methodLink RX1 35 Lib.Math.min.name) (by decide +kernel)
  have hw_smin := hts (.static Lib.Math.min.name) (by decide +kernel)
  have hw_iMath := hts (.initialized "java/lang/Math") (by decide +kernel)
  have hw_cmin := hts (.code Lib.Math.min.name Lib.Math.min.code 2 (some .int)) (by decide +kernel)
  refine lv_aload_n hx hb dX1_lowOf_0 rfl (lv_at hl 0 rfl) ?_
  refine g_get (C := RX1) (T := TX1) (N := 3) (v := .ref (xa x (11 + 3 * i + 2))) hx hb hts hinX1 hown hS hP (id := 11 + 3 * i) (by omega) (sh_r x _ (by omega)) rfl 1 (by decide) hw_f15 rfl dX1_lowOf_1 ?_
  refine lv_iload_n hx hb dX1_lowOf_4 rfl (lv_at hl 1 rfl) ?_
  refine g_iald (j := k) hx hb hS hP (id := 11 + 3 * i + 2) (by omega) ((fun r => sh_y x r (by omega)) _) (by decide) rfl (by omega) dX1_lowOf_5 ?_
  refine lv_aload_n hx hb dX1_lowOf_6 rfl (lv_at hl 0 rfl) ?_
  refine g_get (C := RX1) (T := TX1) (N := 3) (v := .ref (xa x (11 + 3 * i + 2))) hx hb hts hinX1 hown hS hP (id := 11 + 3 * i) (by omega) (sh_r x _ (by omega)) rfl 1 (by decide) hw_f15 rfl dX1_lowOf_7 ?_
  refine lv_iload_n hx hb dX1_lowOf_10 rfl (lv_at hl 1 rfl) ?_
  refine lv_iconst (v := 1) hx hb dX1_lowOf_11 (by decide) ?_
  refine h_iadd (v := nI (k + 1)) hx hb dX1_lowOf_12 (nI_add (k) (1)) ?_
  refine g_iald (j := k + 1) hx hb hS hP (id := 11 + 3 * i + 2) (by omega) ((fun r => sh_y x r (by omega)) _) (by decide) rfl (by omega) dX1_lowOf_13 ?_
  refine h_min hx hb (hml.trans hl.1.symm) hown hw_m35 hw_smin hw_iMath hw_cmin (Nat.le_of_ble_eq_true rfl) (Nat.le_of_ble_eq_true rfl) (Nat.le_of_ble_eq_true rfl) (Nat.le_of_ble_eq_true rfl) dX1_lowOf_14 ?_
  exact g_iret hx hb hr hlk hS hZ hP hV (Nat.le_of_ble_eq_true rfl) (Nat.le_of_ble_eq_true rfl) dX1_lowOf_17 (by rfl) (by rfl)
set_option maxHeartbeats 4000000 in
set_option maxRecDepth 100000 in
theorem c_X1_highOf (l : Launch) (x : Cx) (M : Nat → Nat → Int32) (i k : Nat) (hi : i < 9) (hk : k + 1 < 8) : Met l yX1_highOf wsX1_highOf ({ frames := 1, cells := 0, slots := 0, locals := 21 }) (gP x M [.ref (xa x (11 + 3 * i)), .int (nI k)]) (gQ x (some (.int (hiO (M (11 + 3 * i + 2)) k))) M) 0 0 (gF x) := by
  refine g_met (cc := cX1_highOf) (maxL := 2) (ret := some .int) (by decide) rfl (Nat.le_of_ble_eq_true rfl) ?_
  intro p e s m below meth c hx hb hr hml hts hown hlk hS hZ hP hV ls hl
  have hl : lv_has ls 2 [(0, .ref (xa x (11 + 3 * i))), (1, .int (nI k))] := hl
  have hw_f15 := hts (.fieldLink RX1 15 "CableOffice$Route" "y" "[I") (by decide +kernel)
  have hinX1 : ∀ w ∈ wsX10, w ∈ wsX1_highOf := by decide +kernel
  have hw_m41 := hts (.methodLink RX1 41 Lib.Math.max.name) (by decide +kernel)
  have hw_smax := hts (.static Lib.Math.max.name) (by decide +kernel)
  have hw_iMath := hts (.initialized "java/lang/Math") (by decide +kernel)
  have hw_cmax := hts (.code Lib.Math.max.name Lib.Math.max.code 2 (some .int)) (by decide +kernel)
  refine lv_aload_n hx hb dX1_highOf_0 rfl (lv_at hl 0 rfl) ?_
  refine g_get (C := RX1) (T := TX1) (N := 3) (v := .ref (xa x (11 + 3 * i + 2))) hx hb hts hinX1 hown hS hP (id := 11 + 3 * i) (by omega) (sh_r x _ (by omega)) rfl 1 (by decide) hw_f15 rfl dX1_highOf_1 ?_
  refine lv_iload_n hx hb dX1_highOf_4 rfl (lv_at hl 1 rfl) ?_
  refine g_iald (j := k) hx hb hS hP (id := 11 + 3 * i + 2) (by omega) ((fun r => sh_y x r (by omega)) _) (by decide) rfl (by omega) dX1_highOf_5 ?_
  refine lv_aload_n hx hb dX1_highOf_6 rfl (lv_at hl 0 rfl) ?_
  refine g_get (C := RX1) (T := TX1) (N := 3) (v := .ref (xa x (11 + 3 * i + 2))) hx hb hts hinX1 hown hS hP (id := 11 + 3 * i) (by omega) (sh_r x _ (by omega)) rfl 1 (by decide) hw_f15 rfl dX1_highOf_7 ?_
  refine lv_iload_n hx hb dX1_highOf_10 rfl (lv_at hl 1 rfl) ?_
  refine lv_iconst (v := 1) hx hb dX1_highOf_11 (by decide) ?_
  refine h_iadd (v := nI (k + 1)) hx hb dX1_highOf_12 (nI_add (k) (1)) ?_
  refine g_iald (j := k + 1) hx hb hS hP (id := 11 + 3 * i + 2) (by omega) ((fun r => sh_y x r (by omega)) _) (by decide) rfl (by omega) dX1_highOf_13 ?_
  refine h_max hx hb (hml.trans hl.1.symm) hown hw_m41 hw_smax hw_iMath hw_cmax (Nat.le_of_ble_eq_true rfl) (Nat.le_of_ble_eq_true rfl) (Nat.le_of_ble_eq_true rfl) (Nat.le_of_ble_eq_true rfl) dX1_highOf_14 ?_
  exact g_iret hx hb hr hlk hS hZ hP hV (Nat.le_of_ble_eq_true rfl) (Nat.le_of_ble_eq_true rfl) dX1_highOf_17 (by rfl) (by rfl)
set_option maxHeartbeats 4000000 in
set_option maxRecDepth 100000 in
theorem c_X1_pieces (l : Launch) (x : Cx) (M : Nat → Nat → Int32) (i n : Nat) (hi : i < 9) (hn : M (11 + 3 * i) 2 = nI (n + 1)) : Met l yX1_pieces wsX1_pieces ({ frames := 0, cells := 0, slots := 0, locals := 0 }) (gP x M [.ref (xa x (11 + 3 * i))]) (gQ x (some (.int (nI n))) M) 0 0 (gF x) := by
  refine g_met (cc := cX1_pieces) (maxL := 1) (ret := some .int) (by decide) rfl (Nat.le_of_ble_eq_true rfl) ?_
  intro p e s m below meth c hx hb hr hml hts hown hlk hS hZ hP hV ls hl
  have hl : lv_has ls 1 [(0, .ref (xa x (11 + 3 * i)))] := hl
  have hw_f18 := hts (.fieldLink RX1 18 "CableOffice$Route" "points" "I") (by decide +kernel)
  have hinX1 : ∀ w ∈ wsX10, w ∈ wsX1_pieces := by decide +kernel
  refine lv_aload_n hx hb dX1_pieces_0 rfl (lv_at hl 0 rfl) ?_
  refine g_get (C := RX1) (T := TX1) (N := 3) (v := .int (nI (n + 1))) hx hb hts hinX1 hown hS hP (id := 11 + 3 * i) (by omega) (sh_r x _ (by omega)) rfl 2 (by decide) hw_f18 (congrArg (fun z => some (Value.int z)) hn) dX1_pieces_1 ?_
  refine lv_iconst (v := 1) hx hb dX1_pieces_4 (by decide) ?_
  refine h_isub (v := nI n) hx hb dX1_pieces_5 (h_sub n 1) ?_
  exact g_iret hx hb hr hlk hS hZ hP hV (Nat.le_of_ble_eq_true rfl) (Nat.le_of_ble_eq_true rfl) dX1_pieces_6 (by rfl) (by rfl)
set_option maxHeartbeats 4000000 in
set_option maxRecDepth 100000 in
theorem c_X1_sideOf (l : Launch) (x : Cx) (M : Nat → Nat → Int32) (i k : Nat) (px py : Int32) (hi : i < 9) (hk : k + 1 < 8) : Met l yX1_sideOf wsX1_sideOf ({ frames := 1, cells := 0, slots := 0, locals := 21 }) (gP x M [.ref (xa x (11 + 3 * i)), .int (nI k), .int px, .int py]) (gQ x (some (.int (sideO (M (11 + 3 * i + 1)) (M (11 + 3 * i + 2)) k px py))) M) 0 0 (gF x) := by
  refine g_met (cc := cX1_sideOf) (maxL := 4) (ret := some .int) (by decide) rfl (Nat.le_of_ble_eq_true rfl) ?_
  intro p e s m below meth c hx hb hr hml hts hown hlk hS hZ hP hV ls hl
  have hl : lv_has ls 4 [(0, .ref (xa x (11 + 3 * i))), (1, .int (nI k)), (2, .int px), (3, .int py)] := hl
  have hw_f15 := hts (.fieldLink RX1 15 "CableOffice$Route" "y" "[I") (by decide +kernel)
  have hinX1 : ∀ w ∈ wsX10, w ∈ wsX1_sideOf := by decide +kernel
  have hw_f9 := hts (.fieldLink RX1 9 "CableOffice$Route" "x" "[I") (by decide +kernel)
  refine lv_aload_n hx hb dX1_sideOf_0 rfl (lv_at hl 0 rfl) ?_
  refine lv_iload_n hx hb dX1_sideOf_1 rfl (lv_at hl 1 rfl) ?_
  refine g_call1 (va_runV (As := [.int (nI k)]) (rest := []) ⟨hx, hb, hml, hown, hts⟩ (c_X1_width l x M i k (by omega) (by omega)) (cwV 1 hts gX1_sideOf_X1_width rfl rfl rfl (by decide +kernel) ⟨Nat.le_of_ble_eq_true rfl, Nat.le_of_ble_eq_true rfl⟩) (g_preV hS hZ hP hV [.int (nI k)] (id := 11 + 3 * i) (by omega) (sh_r x _ (by omega)) rfl) rfl rfl hl.1 rfl (lv_room (Nat.le_of_ble_eq_true rfl)) dX1_sideOf_2 ⟨Nat.le_of_ble_eq_true rfl, Nat.le_of_ble_eq_true rfl⟩) hV (fun H locs hP hV => ?_)
  refine lv_iload_n hx hb dX1_sideOf_5 rfl (lv_at hl 3 rfl) ?_
  refine lv_aload_n hx hb dX1_sideOf_6 rfl (lv_at hl 0 rfl) ?_
  refine g_get (C := RX1) (T := TX1) (N := 3) (v := .ref (xa x (11 + 3 * i + 2))) hx hb hts hinX1 hown hS hP (id := 11 + 3 * i) (by omega) (sh_r x _ (by omega)) rfl 1 (by decide) hw_f15 rfl dX1_sideOf_7 ?_
  refine lv_iload_n hx hb dX1_sideOf_10 rfl (lv_at hl 1 rfl) ?_
  refine g_iald (j := k) hx hb hS hP (id := 11 + 3 * i + 2) (by omega) ((fun r => sh_y x r (by omega)) _) (by decide) rfl (by omega) dX1_sideOf_11 ?_
  refine lv_isub hx hb dX1_sideOf_12 ?_
  refine lv_imul hx hb dX1_sideOf_13 ?_
  refine lv_aload_n hx hb dX1_sideOf_14 rfl (lv_at hl 0 rfl) ?_
  refine lv_iload_n hx hb dX1_sideOf_15 rfl (lv_at hl 1 rfl) ?_
  refine g_call1 (va_runV (As := [.int (nI k)]) (rest := [.int ((wd (M (11 + 3 * i + 1)) k) * (py - (M (11 + 3 * i + 2) k)))]) ⟨hx, hb, hml, hown, hts⟩ (c_X1_height l x M i k (by omega) (by omega)) (cwV 1 hts gX1_sideOf_X1_height rfl rfl rfl (by decide +kernel) ⟨Nat.le_of_ble_eq_true rfl, Nat.le_of_ble_eq_true rfl⟩) (g_preV hS hZ hP hV [.int (nI k)] (id := 11 + 3 * i) (by omega) (sh_r x _ (by omega)) rfl) rfl rfl hl.1 rfl (lv_room (Nat.le_of_ble_eq_true rfl)) dX1_sideOf_16 ⟨Nat.le_of_ble_eq_true rfl, Nat.le_of_ble_eq_true rfl⟩) hV (fun H locs hP hV => ?_)
  refine lv_iload_n hx hb dX1_sideOf_19 rfl (lv_at hl 2 rfl) ?_
  refine lv_aload_n hx hb dX1_sideOf_20 rfl (lv_at hl 0 rfl) ?_
  refine g_get (C := RX1) (T := TX1) (N := 3) (v := .ref (xa x (11 + 3 * i + 1))) hx hb hts hinX1 hown hS hP (id := 11 + 3 * i) (by omega) (sh_r x _ (by omega)) rfl 0 (by decide) hw_f9 rfl dX1_sideOf_21 ?_
  refine lv_iload_n hx hb dX1_sideOf_24 rfl (lv_at hl 1 rfl) ?_
  refine g_iald (j := k) hx hb hS hP (id := 11 + 3 * i + 1) (by omega) ((fun r => sh_x x r (by omega)) _) (by decide) rfl (by omega) dX1_sideOf_25 ?_
  refine lv_isub hx hb dX1_sideOf_26 ?_
  refine lv_imul hx hb dX1_sideOf_27 ?_
  refine lv_isub hx hb dX1_sideOf_28 ?_
  exact g_iret hx hb hr hlk hS hZ hP hV (Nat.le_of_ble_eq_true rfl) (Nat.le_of_ble_eq_true rfl) dX1_sideOf_29 (by rfl) (by rfl)
set_option maxHeartbeats 4000000 in
set_option maxRecDepth 100000 in
theorem c_X1_boxMeets (l : Launch) (x : Cx) (M : Nat → Nat → Int32) (i k : Nat) (le lo ri hh : Int32) (hi : i < 9) (hk : k + 1 < 8) : Met l yX1_boxMeets wsX1_boxMeets ({ frames := 2, cells := 0, slots := 0, locals := 42 }) (gP x M [.ref (xa x (11 + 3 * i)), .int (nI k), .int le, .int lo, .int ri, .int hh]) (gQ x (some (.int (bI (boxO (M (11 + 3 * i + 1)) (M (11 + 3 * i + 2)) k le lo ri hh)))) M) 0 0 (gF x) := by
  refine g_met (cc := cX1_boxMeets) (maxL := 6) (ret := some .boolean) (by decide) rfl (Nat.le_of_ble_eq_true rfl) ?_
  intro p e s m below meth c hx hb hr hml hts hown hlk hS hZ hP hV ls hl
  have hl : lv_has ls 6 [(0, .ref (xa x (11 + 3 * i))), (1, .int (nI k)), (2, .int le), (3, .int lo), (4, .int ri), (5, .int hh)] := hl
  refine lv_aload_n hx hb dX1_boxMeets_0 rfl (lv_at hl 0 rfl) ?_
  refine lv_iload_n hx hb dX1_boxMeets_1 rfl (lv_at hl 1 rfl) ?_
  refine g_call1 (va_runV (As := [.int (nI k)]) (rest := []) ⟨hx, hb, hml, hown, hts⟩ (c_X1_leftOf l x M i k (by omega) (by omega)) (cwV 1 hts gX1_boxMeets_X1_leftOf rfl rfl rfl (by decide +kernel) ⟨Nat.le_of_ble_eq_true rfl, Nat.le_of_ble_eq_true rfl⟩) (g_preV hS hZ hP hV [.int (nI k)] (id := 11 + 3 * i) (by omega) (sh_r x _ (by omega)) rfl) rfl rfl hl.1 rfl (lv_room (Nat.le_of_ble_eq_true rfl)) dX1_boxMeets_2 ⟨Nat.le_of_ble_eq_true rfl, Nat.le_of_ble_eq_true rfl⟩) hV (fun H locs hP hV => ?_)
  refine lv_iload hx hb dX1_boxMeets_5 (lv_at hl 4 rfl) ?_
  refine lv_icmp_gt (tgt := 42) hx hb dX1_boxMeets_7 (by decide) (fun c_1 => ?_) (fun c_1 => ?_)
  · -- taken
    refine lv_iconst (v := 0) hx hb dX1_boxMeets_42 (by decide) ?_
    exact g_zret hx hb hr hlk hS hZ hP hV (Nat.le_of_ble_eq_true rfl) (Nat.le_of_ble_eq_true rfl) dX1_boxMeets_43 (by decide) (by simp [boxO, bI, c_1]) (by rfl)
  · -- on
    refine lv_aload_n hx hb dX1_boxMeets_10 rfl (lv_at hl 0 rfl) ?_
    refine lv_iload_n hx hb dX1_boxMeets_11 rfl (lv_at hl 1 rfl) ?_
    refine g_call1 (va_runV (As := [.int (nI k)]) (rest := []) ⟨hx, hb, hml, hown, hts⟩ (c_X1_rightOf l x M i k (by omega) (by omega)) (cwV 1 hts gX1_boxMeets_X1_rightOf rfl rfl rfl (by decide +kernel) ⟨Nat.le_of_ble_eq_true rfl, Nat.le_of_ble_eq_true rfl⟩) (g_preV hS hZ hP hV [.int (nI k)] (id := 11 + 3 * i) (by omega) (sh_r x _ (by omega)) rfl) rfl rfl hl.1 rfl (lv_room (Nat.le_of_ble_eq_true rfl)) dX1_boxMeets_12 ⟨Nat.le_of_ble_eq_true rfl, Nat.le_of_ble_eq_true rfl⟩) hV (fun H locs hP hV => ?_)
    refine lv_iload_n hx hb dX1_boxMeets_15 rfl (lv_at hl 2 rfl) ?_
    refine lv_icmp_lt (tgt := 42) hx hb dX1_boxMeets_16 (by decide) (fun c_2 => ?_) (fun c_2 => ?_)
    · -- taken
      refine lv_iconst (v := 0) hx hb dX1_boxMeets_42 (by decide) ?_
      exact g_zret hx hb hr hlk hS hZ hP hV (Nat.le_of_ble_eq_true rfl) (Nat.le_of_ble_eq_true rfl) dX1_boxMeets_43 (by decide) (by simp [boxO, bI, c_1, c_2]) (by rfl)
    · -- on
      refine lv_aload_n hx hb dX1_boxMeets_19 rfl (lv_at hl 0 rfl) ?_
      refine lv_iload_n hx hb dX1_boxMeets_20 rfl (lv_at hl 1 rfl) ?_
      refine g_call1 (va_runV (As := [.int (nI k)]) (rest := []) ⟨hx, hb, hml, hown, hts⟩ (c_X1_lowOf l x M i k (by omega) (by omega)) (cwV 1 hts gX1_boxMeets_X1_lowOf rfl rfl rfl (by decide +kernel) ⟨Nat.le_of_ble_eq_true rfl, Nat.le_of_ble_eq_true rfl⟩) (g_preV hS hZ hP hV [.int (nI k)] (id := 11 + 3 * i) (by omega) (sh_r x _ (by omega)) rfl) rfl rfl hl.1 rfl (lv_room (Nat.le_of_ble_eq_true rfl)) dX1_boxMeets_21 ⟨Nat.le_of_ble_eq_true rfl, Nat.le_of_ble_eq_true rfl⟩) hV (fun H locs hP hV => ?_)
      refine lv_iload hx hb dX1_boxMeets_24 (lv_at hl 5 rfl) ?_
      refine lv_icmp_gt (tgt := 42) hx hb dX1_boxMeets_26 (by decide) (fun c_3 => ?_) (fun c_3 => ?_)
      · -- taken
        refine lv_iconst (v := 0) hx hb dX1_boxMeets_42 (by decide) ?_
        exact g_zret hx hb hr hlk hS hZ hP hV (Nat.le_of_ble_eq_true rfl) (Nat.le_of_ble_eq_true rfl) dX1_boxMeets_43 (by decide) (by simp [boxO, bI, c_1, c_2, c_3]) (by rfl)
      · -- on
        refine lv_aload_n hx hb dX1_boxMeets_29 rfl (lv_at hl 0 rfl) ?_
        refine lv_iload_n hx hb dX1_boxMeets_30 rfl (lv_at hl 1 rfl) ?_
        refine g_call1 (va_runV (As := [.int (nI k)]) (rest := []) ⟨hx, hb, hml, hown, hts⟩ (c_X1_highOf l x M i k (by omega) (by omega)) (cwV 1 hts gX1_boxMeets_X1_highOf rfl rfl rfl (by decide +kernel) ⟨Nat.le_of_ble_eq_true rfl, Nat.le_of_ble_eq_true rfl⟩) (g_preV hS hZ hP hV [.int (nI k)] (id := 11 + 3 * i) (by omega) (sh_r x _ (by omega)) rfl) rfl rfl hl.1 rfl (lv_room (Nat.le_of_ble_eq_true rfl)) dX1_boxMeets_31 ⟨Nat.le_of_ble_eq_true rfl, Nat.le_of_ble_eq_true rfl⟩) hV (fun H locs hP hV => ?_)
        refine lv_iload_n hx hb dX1_boxMeets_34 rfl (lv_at hl 3 rfl) ?_
        refine lv_icmp_lt (tgt := 42) hx hb dX1_boxMeets_35 (by decide) (fun c_4 => ?_) (fun c_4 => ?_)
        · -- taken
          refine lv_iconst (v := 0) hx hb dX1_boxMeets_42 (by decide) ?_
          exact g_zret hx hb hr hlk hS hZ hP hV (Nat.le_of_ble_eq_true rfl) (Nat.le_of_ble_eq_true rfl) dX1_boxMeets_43 (by decide) (by simp [boxO, bI, c_1, c_2, c_3, c_4]) (by rfl)
        · -- on
          refine lv_iconst (v := 1) hx hb dX1_boxMeets_38 (by decide) ?_
          refine lv_goto (tgt := 43) hx hb dX1_boxMeets_39 (by decide) ?_
          exact g_zret hx hb hr hlk hS hZ hP hV (Nat.le_of_ble_eq_true rfl) (Nat.le_of_ble_eq_true rfl) dX1_boxMeets_43 (by decide) (by simp [boxO, bI, c_1, c_2, c_3, c_4]) (by rfl)
set_option maxHeartbeats 4000000 in
set_option maxRecDepth 100000 in
theorem c_X1_lineDivides (l : Launch) (x : Cx) (M : Nat → Nat → Int32) (i k j u : Nat) (hi : i < 9) (hk : k + 1 < 8) (hj : j < 9) (hu : u + 1 < 8) : Met l yX1_lineDivides wsX1_lineDivides ({ frames := 2, cells := 0, slots := 0, locals := 44 }) (gP x M [.ref (xa x (11 + 3 * i)), .int (nI k), .ref (xa x (11 + 3 * j)), .int (nI u)]) (gQ x (some (.int (bI (divO (M (11 + 3 * i + 1)) (M (11 + 3 * i + 2)) k (M (11 + 3 * j + 1)) (M (11 + 3 * j + 2)) u)))) M) 0 0 (gF x) := by
  refine g_met (cc := cX1_lineDivides) (maxL := 6) (ret := some .boolean) (by decide) rfl (Nat.le_of_ble_eq_true rfl) ?_
  intro p e s m below meth c hx hb hr hml hts hown hlk hS hZ hP hV ls hl
  have hl : lv_has ls 6 [(0, .ref (xa x (11 + 3 * i))), (1, .int (nI k)), (2, .ref (xa x (11 + 3 * j))), (3, .int (nI u))] := hl
  have hw_f9 := hts (.fieldLink RX1 9 "CableOffice$Route" "x" "[I") (by decide +kernel)
  have hinX1 : ∀ w ∈ wsX10, w ∈ wsX1_lineDivides := by decide +kernel
  have hw_f15 := hts (.fieldLink RX1 15 "CableOffice$Route" "y" "[I") (by decide +kernel)
  have hw_m35 := hts (.methodLink RX1 35 Lib.Math.min.name) (by decide +kernel)
  have hw_smin := hts (.static Lib.Math.min.name) (by decide +kernel)
  have hw_iMath := hts (.initialized "java/lang/Math") (by decide +kernel)
  have hw_cmin := hts (.code Lib.Math.min.name Lib.Math.min.code 2 (some .int)) (by decide +kernel)
  have hw_m41 := hts (.methodLink RX1 41 Lib.Math.max.name) (by decide +kernel)
  have hw_smax := hts (.static Lib.Math.max.name) (by decide +kernel)
  have hw_cmax := hts (.code Lib.Math.max.name Lib.Math.max.code 2 (some .int)) (by decide +kernel)
  refine lv_aload_n hx hb dX1_lineDivides_0 rfl (lv_at hl 0 rfl) ?_
  refine lv_iload_n hx hb dX1_lineDivides_1 rfl (lv_at hl 1 rfl) ?_
  refine lv_aload_n hx hb dX1_lineDivides_2 rfl (lv_at hl 2 rfl) ?_
  refine g_get (C := RX1) (T := TX1) (N := 3) (v := .ref (xa x (11 + 3 * j + 1))) hx hb hts hinX1 hown hS hP (id := 11 + 3 * j) (by omega) (sh_r x _ (by omega)) rfl 0 (by decide) hw_f9 rfl dX1_lineDivides_3 ?_
  refine lv_iload_n hx hb dX1_lineDivides_6 rfl (lv_at hl 3 rfl) ?_
  refine g_iald (j := u) hx hb hS hP (id := 11 + 3 * j + 1) (by omega) ((fun r => sh_x x r (by omega)) _) (by decide) rfl (by omega) dX1_lineDivides_7 ?_
  refine lv_aload_n hx hb dX1_lineDivides_8 rfl (lv_at hl 2 rfl) ?_
  refine g_get (C := RX1) (T := TX1) (N := 3) (v := .ref (xa x (11 + 3 * j + 2))) hx hb hts hinX1 hown hS hP (id := 11 + 3 * j) (by omega) (sh_r x _ (by omega)) rfl 1 (by decide) hw_f15 rfl dX1_lineDivides_9 ?_
  refine lv_iload_n hx hb dX1_lineDivides_12 rfl (lv_at hl 3 rfl) ?_
  refine g_iald (j := u) hx hb hS hP (id := 11 + 3 * j + 2) (by omega) ((fun r => sh_y x r (by omega)) _) (by decide) rfl (by omega) dX1_lineDivides_13 ?_
  refine g_call1 (va_runV (As := [.int (nI k), .int (M (11 + 3 * j + 1) u), .int (M (11 + 3 * j + 2) u)]) (rest := []) ⟨hx, hb, hml, hown, hts⟩ (c_X1_sideOf l x M i k (M (11 + 3 * j + 1) u) (M (11 + 3 * j + 2) u) (by omega) (by omega)) (cwV 3 hts gX1_lineDivides_X1_sideOf rfl rfl rfl (by decide +kernel) ⟨Nat.le_of_ble_eq_true rfl, Nat.le_of_ble_eq_true rfl⟩) (g_preV hS hZ hP hV [.int (nI k), .int (M (11 + 3 * j + 1) u), .int (M (11 + 3 * j + 2) u)] (id := 11 + 3 * i) (by omega) (sh_r x _ (by omega)) rfl) rfl rfl hl.1 rfl (lv_room (Nat.le_of_ble_eq_true rfl)) dX1_lineDivides_14 ⟨Nat.le_of_ble_eq_true rfl, Nat.le_of_ble_eq_true rfl⟩) hV (fun H locs hP hV => ?_)
  refine lv_istore (lv' := [(4, .int (sideO (M (11 + 3 * i + 1)) (M (11 + 3 * i + 2)) k (M (11 + 3 * j + 1) u) (M (11 + 3 * j + 2) u))), (0, .ref (xa x (11 + 3 * i))), (1, .int (nI k)), (2, .ref (xa x (11 + 3 * j))), (3, .int (nI u))]) hx hb dX1_lineDivides_17 hl (by decide) rfl (fun ls hl => ?_)
  refine lv_aload_n hx hb dX1_lineDivides_19 rfl (lv_at hl 1 rfl) ?_
  refine lv_iload_n hx hb dX1_lineDivides_20 rfl (lv_at hl 2 rfl) ?_
  refine lv_aload_n hx hb dX1_lineDivides_21 rfl (lv_at hl 3 rfl) ?_
  refine g_get (C := RX1) (T := TX1) (N := 3) (v := .ref (xa x (11 + 3 * j + 1))) hx hb hts hinX1 hown hS hP (id := 11 + 3 * j) (by omega) (sh_r x _ (by omega)) rfl 0 (by decide) hw_f9 rfl dX1_lineDivides_22 ?_
  refine lv_iload_n hx hb dX1_lineDivides_25 rfl (lv_at hl 4 rfl) ?_
  refine lv_iconst (v := 1) hx hb dX1_lineDivides_26 (by decide) ?_
  refine h_iadd (v := nI (u + 1)) hx hb dX1_lineDivides_27 (nI_add (u) (1)) ?_
  refine g_iald (j := u + 1) hx hb hS hP (id := 11 + 3 * j + 1) (by omega) ((fun r => sh_x x r (by omega)) _) (by decide) rfl (by omega) dX1_lineDivides_28 ?_
  refine lv_aload_n hx hb dX1_lineDivides_29 rfl (lv_at hl 3 rfl) ?_
  refine g_get (C := RX1) (T := TX1) (N := 3) (v := .ref (xa x (11 + 3 * j + 2))) hx hb hts hinX1 hown hS hP (id := 11 + 3 * j) (by omega) (sh_r x _ (by omega)) rfl 1 (by decide) hw_f15 rfl dX1_lineDivides_30 ?_
  refine lv_iload_n hx hb dX1_lineDivides_33 rfl (lv_at hl 4 rfl) ?_
  refine lv_iconst (v := 1) hx hb dX1_lineDivides_34 (by decide) ?_
  refine h_iadd (v := nI (u + 1)) hx hb dX1_lineDivides_35 (nI_add (u) (1)) ?_
  refine g_iald (j := u + 1) hx hb hS hP (id := 11 + 3 * j + 2) (by omega) ((fun r => sh_y x r (by omega)) _) (by decide) rfl (by omega) dX1_lineDivides_36 ?_
  refine g_call1 (va_runV (As := [.int (nI k), .int (M (11 + 3 * j + 1) (u + 1)), .int (M (11 + 3 * j + 2) (u + 1))]) (rest := []) ⟨hx, hb, hml, hown, hts⟩ (c_X1_sideOf l x M i k (M (11 + 3 * j + 1) (u + 1)) (M (11 + 3 * j + 2) (u + 1)) (by omega) (by omega)) (cwV 3 hts gX1_lineDivides_X1_sideOf rfl rfl rfl (by decide +kernel) ⟨Nat.le_of_ble_eq_true rfl, Nat.le_of_ble_eq_true rfl⟩) (g_preV hS hZ hP hV [.int (nI k), .int (M (11 + 3 * j + 1) (u + 1)), .int (M (11 + 3 * j + 2) (u + 1))] (id := 11 + 3 * i) (by omega) (sh_r x _ (by omega)) rfl) rfl rfl hl.1 rfl (lv_room (Nat.le_of_ble_eq_true rfl)) dX1_lineDivides_37 ⟨Nat.le_of_ble_eq_true rfl, Nat.le_of_ble_eq_true rfl⟩) hV (fun H locs hP hV => ?_)
  refine lv_istore (lv' := [(5, .int (sideO (M (11 + 3 * i + 1)) (M (11 + 3 * i + 2)) k (M (11 + 3 * j + 1) (u + 1)) (M (11 + 3 * j + 2) (u + 1)))), (4, .int (sideO (M (11 + 3 * i + 1)) (M (11 + 3 * i + 2)) k (M (11 + 3 * j + 1) u) (M (11 + 3 * j + 2) u))), (0, .ref (xa x (11 + 3 * i))), (1, .int (nI k)), (2, .ref (xa x (11 + 3 * j))), (3, .int (nI u))]) hx hb dX1_lineDivides_40 hl (by decide) rfl (fun ls hl => ?_)
  refine lv_iload hx hb dX1_lineDivides_42 (lv_at hl 1 rfl) ?_
  refine lv_iload hx hb dX1_lineDivides_44 (lv_at hl 0 rfl) ?_
  refine h_min hx hb (hml.trans hl.1.symm) hown hw_m35 hw_smin hw_iMath hw_cmin (Nat.le_of_ble_eq_true rfl) (Nat.le_of_ble_eq_true rfl) (Nat.le_of_ble_eq_true rfl) (Nat.le_of_ble_eq_true rfl) dX1_lineDivides_46 ?_
  refine lv_if_gt (tgt := 66) hx hb dX1_lineDivides_49 (by decide) (fun c_1 => ?_) (fun c_1 => ?_)
  · -- taken
    refine lv_iconst (v := 0) hx hb dX1_lineDivides_66 (by decide) ?_
    exact g_zret hx hb hr hlk hS hZ hP hV (Nat.le_of_ble_eq_true rfl) (Nat.le_of_ble_eq_true rfl) dX1_lineDivides_67 (by decide) (by simp [divO, bI, c_1]) (by rfl)
  · -- on
    refine lv_iload hx hb dX1_lineDivides_52 (lv_at hl 1 rfl) ?_
    refine lv_iload hx hb dX1_lineDivides_54 (lv_at hl 0 rfl) ?_
    refine h_max hx hb (hml.trans hl.1.symm) hown hw_m41 hw_smax hw_iMath hw_cmax (Nat.le_of_ble_eq_true rfl) (Nat.le_of_ble_eq_true rfl) (Nat.le_of_ble_eq_true rfl) (Nat.le_of_ble_eq_true rfl) dX1_lineDivides_56 ?_
    refine lv_if_lt (tgt := 66) hx hb dX1_lineDivides_59 (by decide) (fun c_2 => ?_) (fun c_2 => ?_)
    · -- taken
      refine lv_iconst (v := 0) hx hb dX1_lineDivides_66 (by decide) ?_
      exact g_zret hx hb hr hlk hS hZ hP hV (Nat.le_of_ble_eq_true rfl) (Nat.le_of_ble_eq_true rfl) dX1_lineDivides_67 (by decide) (by simp [divO, bI, c_1, c_2]) (by rfl)
    · -- on
      refine lv_iconst (v := 1) hx hb dX1_lineDivides_62 (by decide) ?_
      refine lv_goto (tgt := 67) hx hb dX1_lineDivides_63 (by decide) ?_
      exact g_zret hx hb hr hlk hS hZ hP hV (Nat.le_of_ble_eq_true rfl) (Nat.le_of_ble_eq_true rfl) dX1_lineDivides_67 (by decide) (by simp [divO, bI, c_1, c_2]) (by rfl)
set_option maxHeartbeats 4000000 in
set_option maxRecDepth 100000 in
theorem c_X1_pieceIsSteepTo (l : Launch) (x : Cx) (M : Nat → Nat → Int32) (i k j u : Nat) (hi : i < 9) (hk : k + 1 < 8) (hj : j < 9) (hu : u + 1 < 8) : Met l yX1_pieceIsSteepTo wsX1_pieceIsSteepTo ({ frames := 1, cells := 0, slots := 0, locals := 21 }) (gP x M [.ref (xa x (11 + 3 * i)), .int (nI k), .ref (xa x (11 + 3 * j)), .int (nI u)]) (gQ x (some (.int (bI (stO (M (11 + 3 * i + 1)) (M (11 + 3 * i + 2)) k (M (11 + 3 * j + 1)) (M (11 + 3 * j + 2)) u)))) M) 0 0 (gF x) := by
  refine g_met (cc := cX1_pieceIsSteepTo) (maxL := 8) (ret := some .boolean) (by decide) rfl (Nat.le_of_ble_eq_true rfl) ?_
  intro p e s m below meth c hx hb hr hml hts hown hlk hS hZ hP hV ls hl
  have hl : lv_has ls 8 [(0, .ref (xa x (11 + 3 * i))), (1, .int (nI k)), (2, .ref (xa x (11 + 3 * j))), (3, .int (nI u))] := hl
  have hw_m68 := hts (.methodLink RX1 68 Lib.Math.abs.name) (by decide +kernel)
  have hw_sabs := hts (.static Lib.Math.abs.name) (by decide +kernel)
  have hw_iMath := hts (.initialized "java/lang/Math") (by decide +kernel)
  have hw_cabs := hts (.code Lib.Math.abs.name Lib.Math.abs.code 1 (some .int)) (by decide +kernel)
  refine lv_aload_n hx hb dX1_pieceIsSteepTo_0 rfl (lv_at hl 0 rfl) ?_
  refine lv_iload_n hx hb dX1_pieceIsSteepTo_1 rfl (lv_at hl 1 rfl) ?_
  refine g_call1 (va_runV (As := [.int (nI k)]) (rest := []) ⟨hx, hb, hml, hown, hts⟩ (c_X1_width l x M i k (by omega) (by omega)) (cwV 1 hts gX1_pieceIsSteepTo_X1_width rfl rfl rfl (by decide +kernel) ⟨Nat.le_of_ble_eq_true rfl, Nat.le_of_ble_eq_true rfl⟩) (g_preV hS hZ hP hV [.int (nI k)] (id := 11 + 3 * i) (by omega) (sh_r x _ (by omega)) rfl) rfl rfl hl.1 rfl (lv_room (Nat.le_of_ble_eq_true rfl)) dX1_pieceIsSteepTo_2 ⟨Nat.le_of_ble_eq_true rfl, Nat.le_of_ble_eq_true rfl⟩) hV (fun H locs hP hV => ?_)
  refine lv_istore (lv' := [(4, .int (wd (M (11 + 3 * i + 1)) k)), (0, .ref (xa x (11 + 3 * i))), (1, .int (nI k)), (2, .ref (xa x (11 + 3 * j))), (3, .int (nI u))]) hx hb dX1_pieceIsSteepTo_5 hl (by decide) rfl (fun ls hl => ?_)
  refine lv_aload_n hx hb dX1_pieceIsSteepTo_7 rfl (lv_at hl 1 rfl) ?_
  refine lv_iload_n hx hb dX1_pieceIsSteepTo_8 rfl (lv_at hl 2 rfl) ?_
  refine g_call1 (va_runV (As := [.int (nI k)]) (rest := []) ⟨hx, hb, hml, hown, hts⟩ (c_X1_height l x M i k (by omega) (by omega)) (cwV 1 hts gX1_pieceIsSteepTo_X1_height rfl rfl rfl (by decide +kernel) ⟨Nat.le_of_ble_eq_true rfl, Nat.le_of_ble_eq_true rfl⟩) (g_preV hS hZ hP hV [.int (nI k)] (id := 11 + 3 * i) (by omega) (sh_r x _ (by omega)) rfl) rfl rfl hl.1 rfl (lv_room (Nat.le_of_ble_eq_true rfl)) dX1_pieceIsSteepTo_9 ⟨Nat.le_of_ble_eq_true rfl, Nat.le_of_ble_eq_true rfl⟩) hV (fun H locs hP hV => ?_)
  refine lv_istore (lv' := [(5, .int (wd (M (11 + 3 * i + 2)) k)), (4, .int (wd (M (11 + 3 * i + 1)) k)), (0, .ref (xa x (11 + 3 * i))), (1, .int (nI k)), (2, .ref (xa x (11 + 3 * j))), (3, .int (nI u))]) hx hb dX1_pieceIsSteepTo_12 hl (by decide) rfl (fun ls hl => ?_)
  refine lv_aload_n hx hb dX1_pieceIsSteepTo_14 rfl (lv_at hl 4 rfl) ?_
  refine lv_iload_n hx hb dX1_pieceIsSteepTo_15 rfl (lv_at hl 5 rfl) ?_
  refine g_call1 (va_runV (As := [.int (nI u)]) (rest := []) ⟨hx, hb, hml, hown, hts⟩ (c_X1_width l x M j u (by omega) (by omega)) (cwV 1 hts gX1_pieceIsSteepTo_X1_width rfl rfl rfl (by decide +kernel) ⟨Nat.le_of_ble_eq_true rfl, Nat.le_of_ble_eq_true rfl⟩) (g_preV hS hZ hP hV [.int (nI u)] (id := 11 + 3 * j) (by omega) (sh_r x _ (by omega)) rfl) rfl rfl hl.1 rfl (lv_room (Nat.le_of_ble_eq_true rfl)) dX1_pieceIsSteepTo_16 ⟨Nat.le_of_ble_eq_true rfl, Nat.le_of_ble_eq_true rfl⟩) hV (fun H locs hP hV => ?_)
  refine lv_istore (lv' := [(6, .int (wd (M (11 + 3 * j + 1)) u)), (5, .int (wd (M (11 + 3 * i + 2)) k)), (4, .int (wd (M (11 + 3 * i + 1)) k)), (0, .ref (xa x (11 + 3 * i))), (1, .int (nI k)), (2, .ref (xa x (11 + 3 * j))), (3, .int (nI u))]) hx hb dX1_pieceIsSteepTo_19 hl (by decide) rfl (fun ls hl => ?_)
  refine lv_aload_n hx hb dX1_pieceIsSteepTo_21 rfl (lv_at hl 5 rfl) ?_
  refine lv_iload_n hx hb dX1_pieceIsSteepTo_22 rfl (lv_at hl 6 rfl) ?_
  refine g_call1 (va_runV (As := [.int (nI u)]) (rest := []) ⟨hx, hb, hml, hown, hts⟩ (c_X1_height l x M j u (by omega) (by omega)) (cwV 1 hts gX1_pieceIsSteepTo_X1_height rfl rfl rfl (by decide +kernel) ⟨Nat.le_of_ble_eq_true rfl, Nat.le_of_ble_eq_true rfl⟩) (g_preV hS hZ hP hV [.int (nI u)] (id := 11 + 3 * j) (by omega) (sh_r x _ (by omega)) rfl) rfl rfl hl.1 rfl (lv_room (Nat.le_of_ble_eq_true rfl)) dX1_pieceIsSteepTo_23 ⟨Nat.le_of_ble_eq_true rfl, Nat.le_of_ble_eq_true rfl⟩) hV (fun H locs hP hV => ?_)
  refine lv_istore (lv' := [(7, .int (wd (M (11 + 3 * j + 2)) u)), (6, .int (wd (M (11 + 3 * j + 1)) u)), (5, .int (wd (M (11 + 3 * i + 2)) k)), (4, .int (wd (M (11 + 3 * i + 1)) k)), (0, .ref (xa x (11 + 3 * i))), (1, .int (nI k)), (2, .ref (xa x (11 + 3 * j))), (3, .int (nI u))]) hx hb dX1_pieceIsSteepTo_26 hl (by decide) rfl (fun ls hl => ?_)
  refine lv_iload hx hb dX1_pieceIsSteepTo_28 (lv_at hl 3 rfl) ?_
  refine lv_iload hx hb dX1_pieceIsSteepTo_30 (lv_at hl 1 rfl) ?_
  refine lv_imul hx hb dX1_pieceIsSteepTo_32 ?_
  refine lv_iload hx hb dX1_pieceIsSteepTo_33 (lv_at hl 2 rfl) ?_
  refine lv_iload hx hb dX1_pieceIsSteepTo_35 (lv_at hl 0 rfl) ?_
  refine lv_imul hx hb dX1_pieceIsSteepTo_37 ?_
  refine lv_iadd hx hb dX1_pieceIsSteepTo_38 ?_
  refine h_abs hx hb (hml.trans hl.1.symm) hown hw_m68 hw_sabs hw_iMath hw_cabs (Nat.le_of_ble_eq_true rfl) (Nat.le_of_ble_eq_true rfl) (Nat.le_of_ble_eq_true rfl) (Nat.le_of_ble_eq_true rfl) dX1_pieceIsSteepTo_39 ?_
  refine lv_iload hx hb dX1_pieceIsSteepTo_42 (lv_at hl 3 rfl) ?_
  refine lv_iload hx hb dX1_pieceIsSteepTo_44 (lv_at hl 0 rfl) ?_
  refine lv_imul hx hb dX1_pieceIsSteepTo_46 ?_
  refine lv_iload hx hb dX1_pieceIsSteepTo_47 (lv_at hl 2 rfl) ?_
  refine lv_iload hx hb dX1_pieceIsSteepTo_49 (lv_at hl 1 rfl) ?_
  refine lv_imul hx hb dX1_pieceIsSteepTo_51 ?_
  refine lv_isub hx hb dX1_pieceIsSteepTo_52 ?_
  refine h_abs hx hb (hml.trans hl.1.symm) hown hw_m68 hw_sabs hw_iMath hw_cabs (Nat.le_of_ble_eq_true rfl) (Nat.le_of_ble_eq_true rfl) (Nat.le_of_ble_eq_true rfl) (Nat.le_of_ble_eq_true rfl) dX1_pieceIsSteepTo_53 ?_
  refine lv_icmp_gt (tgt := 63) hx hb dX1_pieceIsSteepTo_56 (by decide) (fun c_1 => ?_) (fun c_1 => ?_)
  · -- taken
    refine lv_iconst (v := 0) hx hb dX1_pieceIsSteepTo_63 (by decide) ?_
    exact g_zret hx hb hr hlk hS hZ hP hV (Nat.le_of_ble_eq_true rfl) (Nat.le_of_ble_eq_true rfl) dX1_pieceIsSteepTo_64 (by decide) (by simp [stO, bI, c_1]) (by rfl)
  · -- on
    refine lv_iconst (v := 1) hx hb dX1_pieceIsSteepTo_59 (by decide) ?_
    refine lv_goto (tgt := 64) hx hb dX1_pieceIsSteepTo_60 (by decide) ?_
    exact g_zret hx hb hr hlk hS hZ hP hV (Nat.le_of_ble_eq_true rfl) (Nat.le_of_ble_eq_true rfl) dX1_pieceIsSteepTo_64 (by decide) (by simp [stO, bI, c_1]) (by rfl)
set_option maxHeartbeats 4000000 in
set_option maxRecDepth 100000 in
theorem c_X1_pieceCrosses (l : Launch) (x : Cx) (M : Nat → Nat → Int32) (i k j u : Nat) (hi : i < 9) (hk : k + 1 < 8) (hj : j < 9) (hu : u + 1 < 8) : Met l yX1_pieceCrosses wsX1_pieceCrosses ({ frames := 3, cells := 0, slots := 0, locals := 69 }) (gP x M [.ref (xa x (11 + 3 * i)), .int (nI k), .ref (xa x (11 + 3 * j)), .int (nI u)]) (gQ x (some (.int (bI (crO (M (11 + 3 * i + 1)) (M (11 + 3 * i + 2)) k (M (11 + 3 * j + 1)) (M (11 + 3 * j + 2)) u)))) M) 0 0 (gF x) := by
  refine g_met (cc := cX1_pieceCrosses) (maxL := 4) (ret := some .boolean) (by decide) rfl (Nat.le_of_ble_eq_true rfl) ?_
  intro p e s m below meth c hx hb hr hml hts hown hlk hS hZ hP hV ls hl
  have hl : lv_has ls 4 [(0, .ref (xa x (11 + 3 * i))), (1, .int (nI k)), (2, .ref (xa x (11 + 3 * j))), (3, .int (nI u))] := hl
  refine lv_aload_n hx hb dX1_pieceCrosses_0 rfl (lv_at hl 0 rfl) ?_
  refine lv_iload_n hx hb dX1_pieceCrosses_1 rfl (lv_at hl 1 rfl) ?_
  refine lv_aload_n hx hb dX1_pieceCrosses_2 rfl (lv_at hl 2 rfl) ?_
  refine lv_iload_n hx hb dX1_pieceCrosses_3 rfl (lv_at hl 3 rfl) ?_
  refine g_call1 (va_runV (As := [.int (nI u)]) (rest := [.int (nI k), .ref (xa x (11 + 3 * i))]) ⟨hx, hb, hml, hown, hts⟩ (c_X1_leftOf l x M j u (by omega) (by omega)) (cwV 1 hts gX1_pieceCrosses_X1_leftOf rfl rfl rfl (by decide +kernel) ⟨Nat.le_of_ble_eq_true rfl, Nat.le_of_ble_eq_true rfl⟩) (g_preV hS hZ hP hV [.int (nI u)] (id := 11 + 3 * j) (by omega) (sh_r x _ (by omega)) rfl) rfl rfl hl.1 rfl (lv_room (Nat.le_of_ble_eq_true rfl)) dX1_pieceCrosses_4 ⟨Nat.le_of_ble_eq_true rfl, Nat.le_of_ble_eq_true rfl⟩) hV (fun H locs hP hV => ?_)
  refine lv_aload_n hx hb dX1_pieceCrosses_7 rfl (lv_at hl 2 rfl) ?_
  refine lv_iload_n hx hb dX1_pieceCrosses_8 rfl (lv_at hl 3 rfl) ?_
  refine g_call1 (va_runV (As := [.int (nI u)]) (rest := [.int (loO (M (11 + 3 * j + 1)) u), .int (nI k), .ref (xa x (11 + 3 * i))]) ⟨hx, hb, hml, hown, hts⟩ (c_X1_lowOf l x M j u (by omega) (by omega)) (cwV 1 hts gX1_pieceCrosses_X1_lowOf rfl rfl rfl (by decide +kernel) ⟨Nat.le_of_ble_eq_true rfl, Nat.le_of_ble_eq_true rfl⟩) (g_preV hS hZ hP hV [.int (nI u)] (id := 11 + 3 * j) (by omega) (sh_r x _ (by omega)) rfl) rfl rfl hl.1 rfl (lv_room (Nat.le_of_ble_eq_true rfl)) dX1_pieceCrosses_9 ⟨Nat.le_of_ble_eq_true rfl, Nat.le_of_ble_eq_true rfl⟩) hV (fun H locs hP hV => ?_)
  refine lv_aload_n hx hb dX1_pieceCrosses_12 rfl (lv_at hl 2 rfl) ?_
  refine lv_iload_n hx hb dX1_pieceCrosses_13 rfl (lv_at hl 3 rfl) ?_
  refine g_call1 (va_runV (As := [.int (nI u)]) (rest := [.int (loO (M (11 + 3 * j + 2)) u), .int (loO (M (11 + 3 * j + 1)) u), .int (nI k), .ref (xa x (11 + 3 * i))]) ⟨hx, hb, hml, hown, hts⟩ (c_X1_rightOf l x M j u (by omega) (by omega)) (cwV 1 hts gX1_pieceCrosses_X1_rightOf rfl rfl rfl (by decide +kernel) ⟨Nat.le_of_ble_eq_true rfl, Nat.le_of_ble_eq_true rfl⟩) (g_preV hS hZ hP hV [.int (nI u)] (id := 11 + 3 * j) (by omega) (sh_r x _ (by omega)) rfl) rfl rfl hl.1 rfl (lv_room (Nat.le_of_ble_eq_true rfl)) dX1_pieceCrosses_14 ⟨Nat.le_of_ble_eq_true rfl, Nat.le_of_ble_eq_true rfl⟩) hV (fun H locs hP hV => ?_)
  refine lv_aload_n hx hb dX1_pieceCrosses_17 rfl (lv_at hl 2 rfl) ?_
  refine lv_iload_n hx hb dX1_pieceCrosses_18 rfl (lv_at hl 3 rfl) ?_
  refine g_call1 (va_runV (As := [.int (nI u)]) (rest := [.int (hiO (M (11 + 3 * j + 1)) u), .int (loO (M (11 + 3 * j + 2)) u), .int (loO (M (11 + 3 * j + 1)) u), .int (nI k), .ref (xa x (11 + 3 * i))]) ⟨hx, hb, hml, hown, hts⟩ (c_X1_highOf l x M j u (by omega) (by omega)) (cwV 1 hts gX1_pieceCrosses_X1_highOf rfl rfl rfl (by decide +kernel) ⟨Nat.le_of_ble_eq_true rfl, Nat.le_of_ble_eq_true rfl⟩) (g_preV hS hZ hP hV [.int (nI u)] (id := 11 + 3 * j) (by omega) (sh_r x _ (by omega)) rfl) rfl rfl hl.1 rfl (lv_room (Nat.le_of_ble_eq_true rfl)) dX1_pieceCrosses_19 ⟨Nat.le_of_ble_eq_true rfl, Nat.le_of_ble_eq_true rfl⟩) hV (fun H locs hP hV => ?_)
  refine g_call1 (va_runV (As := [.int (nI k), .int (loO (M (11 + 3 * j + 1)) u), .int (loO (M (11 + 3 * j + 2)) u), .int (hiO (M (11 + 3 * j + 1)) u), .int (hiO (M (11 + 3 * j + 2)) u)]) (rest := []) ⟨hx, hb, hml, hown, hts⟩ (c_X1_boxMeets l x M i k (loO (M (11 + 3 * j + 1)) u) (loO (M (11 + 3 * j + 2)) u) (hiO (M (11 + 3 * j + 1)) u) (hiO (M (11 + 3 * j + 2)) u) (by omega) (by omega)) (cwV 5 hts gX1_pieceCrosses_X1_boxMeets rfl rfl rfl (by decide +kernel) ⟨Nat.le_of_ble_eq_true rfl, Nat.le_of_ble_eq_true rfl⟩) (g_preV hS hZ hP hV [.int (nI k), .int (loO (M (11 + 3 * j + 1)) u), .int (loO (M (11 + 3 * j + 2)) u), .int (hiO (M (11 + 3 * j + 1)) u), .int (hiO (M (11 + 3 * j + 2)) u)] (id := 11 + 3 * i) (by omega) (sh_r x _ (by omega)) rfl) rfl rfl hl.1 rfl (lv_room (Nat.le_of_ble_eq_true rfl)) dX1_pieceCrosses_22 ⟨Nat.le_of_ble_eq_true rfl, Nat.le_of_ble_eq_true rfl⟩) hV (fun H locs hP hV => ?_)
  refine h_if_eq_b (tgt := 52) hx hb dX1_pieceCrosses_25 (by decide) (fun c_1 => ?_) (fun c_1 => ?_)
  · -- taken
    refine lv_iconst (v := 0) hx hb dX1_pieceCrosses_52 (by decide) ?_
    exact g_zret hx hb hr hlk hS hZ hP hV (Nat.le_of_ble_eq_true rfl) (Nat.le_of_ble_eq_true rfl) dX1_pieceCrosses_53 (by decide) (by simp [crO, bI, c_1]) (by rfl)
  · -- on
    refine lv_aload_n hx hb dX1_pieceCrosses_28 rfl (lv_at hl 0 rfl) ?_
    refine lv_iload_n hx hb dX1_pieceCrosses_29 rfl (lv_at hl 1 rfl) ?_
    refine lv_aload_n hx hb dX1_pieceCrosses_30 rfl (lv_at hl 2 rfl) ?_
    refine lv_iload_n hx hb dX1_pieceCrosses_31 rfl (lv_at hl 3 rfl) ?_
    refine g_call1 (va_runV (As := [.int (nI k), .ref (xa x (11 + 3 * j)), .int (nI u)]) (rest := []) ⟨hx, hb, hml, hown, hts⟩ (c_X1_lineDivides l x M i k j u (by omega) (by omega) (by omega) (by omega)) (cwV 3 hts gX1_pieceCrosses_X1_lineDivides rfl rfl rfl (by decide +kernel) ⟨Nat.le_of_ble_eq_true rfl, Nat.le_of_ble_eq_true rfl⟩) (g_preV hS hZ hP hV [.int (nI k), .ref (xa x (11 + 3 * j)), .int (nI u)] (id := 11 + 3 * i) (by omega) (sh_r x _ (by omega)) rfl) rfl rfl hl.1 rfl (lv_room (Nat.le_of_ble_eq_true rfl)) dX1_pieceCrosses_32 ⟨Nat.le_of_ble_eq_true rfl, Nat.le_of_ble_eq_true rfl⟩) hV (fun H locs hP hV => ?_)
    refine h_if_eq_b (tgt := 52) hx hb dX1_pieceCrosses_35 (by decide) (fun c_2 => ?_) (fun c_2 => ?_)
    · -- taken
      refine lv_iconst (v := 0) hx hb dX1_pieceCrosses_52 (by decide) ?_
      exact g_zret hx hb hr hlk hS hZ hP hV (Nat.le_of_ble_eq_true rfl) (Nat.le_of_ble_eq_true rfl) dX1_pieceCrosses_53 (by decide) (by simp [crO, bI, c_1, c_2]) (by rfl)
    · -- on
      refine lv_aload_n hx hb dX1_pieceCrosses_38 rfl (lv_at hl 2 rfl) ?_
      refine lv_iload_n hx hb dX1_pieceCrosses_39 rfl (lv_at hl 3 rfl) ?_
      refine lv_aload_n hx hb dX1_pieceCrosses_40 rfl (lv_at hl 0 rfl) ?_
      refine lv_iload_n hx hb dX1_pieceCrosses_41 rfl (lv_at hl 1 rfl) ?_
      refine g_call1 (va_runV (As := [.int (nI u), .ref (xa x (11 + 3 * i)), .int (nI k)]) (rest := []) ⟨hx, hb, hml, hown, hts⟩ (c_X1_lineDivides l x M j u i k (by omega) (by omega) (by omega) (by omega)) (cwV 3 hts gX1_pieceCrosses_X1_lineDivides rfl rfl rfl (by decide +kernel) ⟨Nat.le_of_ble_eq_true rfl, Nat.le_of_ble_eq_true rfl⟩) (g_preV hS hZ hP hV [.int (nI u), .ref (xa x (11 + 3 * i)), .int (nI k)] (id := 11 + 3 * j) (by omega) (sh_r x _ (by omega)) rfl) rfl rfl hl.1 rfl (lv_room (Nat.le_of_ble_eq_true rfl)) dX1_pieceCrosses_42 ⟨Nat.le_of_ble_eq_true rfl, Nat.le_of_ble_eq_true rfl⟩) hV (fun H locs hP hV => ?_)
      refine h_if_eq_b (tgt := 52) hx hb dX1_pieceCrosses_45 (by decide) (fun c_3 => ?_) (fun c_3 => ?_)
      · -- taken
        refine lv_iconst (v := 0) hx hb dX1_pieceCrosses_52 (by decide) ?_
        exact g_zret hx hb hr hlk hS hZ hP hV (Nat.le_of_ble_eq_true rfl) (Nat.le_of_ble_eq_true rfl) dX1_pieceCrosses_53 (by decide) (by simp [crO, bI, c_1, c_2, c_3]) (by rfl)
      · -- on
        refine lv_iconst (v := 1) hx hb dX1_pieceCrosses_48 (by decide) ?_
        refine lv_goto (tgt := 53) hx hb dX1_pieceCrosses_49 (by decide) ?_
        exact g_zret hx hb hr hlk hS hZ hP hV (Nat.le_of_ble_eq_true rfl) (Nat.le_of_ble_eq_true rfl) dX1_pieceCrosses_53 (by decide) (by simp [crO, bI, c_1, c_2, c_3]) (by rfl)
set_option maxHeartbeats 4000000 in
set_option maxRecDepth 100000 in
theorem c_X1_lineMeets (l : Launch) (x : Cx) (M : Nat → Nat → Int32) (i k g : Nat) (hi : i < 9) (hk : k + 1 < 8) (hg : g < 5) : Met l yX1_lineMeets wsX1_lineMeets ({ frames := 2, cells := 0, slots := 0, locals := 44 }) (gP x M [.ref (xa x (11 + 3 * i)), .int (nI k), .ref (xa x (6 + g))]) (gQ x (some (.int (bI (lmO (M (11 + 3 * i + 1)) (M (11 + 3 * i + 2)) k (M (6 + g) 0) (M (6 + g) 1) (M (6 + g) 2) (M (6 + g) 3))))) M) 0 0 (gF x) := by
  refine g_met (cc := cX1_lineMeets) (maxL := 7) (ret := some .boolean) (by decide) rfl (Nat.le_of_ble_eq_true rfl) ?_
  intro p e s m below meth c hx hb hr hml hts hown hlk hS hZ hP hV ls hl
  have hl : lv_has ls 7 [(0, .ref (xa x (11 + 3 * i))), (1, .int (nI k)), (2, .ref (xa x (6 + g)))] := hl
  have hinX0 : ∀ w ∈ wsX00, w ∈ wsX1_lineMeets := by decide +kernel
  have hw_m35 := hts (.methodLink RX1 35 Lib.Math.min.name) (by decide +kernel)
  have hw_smin := hts (.static Lib.Math.min.name) (by decide +kernel)
  have hw_iMath := hts (.initialized "java/lang/Math") (by decide +kernel)
  have hw_cmin := hts (.code Lib.Math.min.name Lib.Math.min.code 2 (some .int)) (by decide +kernel)
  have hw_m41 := hts (.methodLink RX1 41 Lib.Math.max.name) (by decide +kernel)
  have hw_smax := hts (.static Lib.Math.max.name) (by decide +kernel)
  have hw_cmax := hts (.code Lib.Math.max.name Lib.Math.max.code 2 (some .int)) (by decide +kernel)
  refine lv_aload_n hx hb dX1_lineMeets_0 rfl (lv_at hl 0 rfl) ?_
  refine lv_iload_n hx hb dX1_lineMeets_1 rfl (lv_at hl 1 rfl) ?_
  refine lv_aload_n hx hb dX1_lineMeets_2 rfl (lv_at hl 2 rfl) ?_
  refine g_getN (C := RX0) (T := TX0) (N := 9) (host := RX2) (v := .int (M (6 + g) 0)) hx hb hts hinX0 hown hS hP (id := 6 + g) (by omega) (sh_g x _ (by omega)) rfl 0 (by decide) (by decide +kernel) rfl dX1_lineMeets_3 ?_
  refine lv_aload_n hx hb dX1_lineMeets_6 rfl (lv_at hl 2 rfl) ?_
  refine g_getN (C := RX0) (T := TX0) (N := 9) (host := RX2) (v := .int (M (6 + g) 1)) hx hb hts hinX0 hown hS hP (id := 6 + g) (by omega) (sh_g x _ (by omega)) rfl 1 (by decide) (by decide +kernel) rfl dX1_lineMeets_7 ?_
  refine g_call1 (va_runV (As := [.int (nI k), .int (M (6 + g) 0), .int (M (6 + g) 1)]) (rest := []) ⟨hx, hb, hml, hown, hts⟩ (c_X1_sideOf l x M i k (M (6 + g) 0) (M (6 + g) 1) (by omega) (by omega)) (cwV 3 hts gX1_lineMeets_X1_sideOf rfl rfl rfl (by decide +kernel) ⟨Nat.le_of_ble_eq_true rfl, Nat.le_of_ble_eq_true rfl⟩) (g_preV hS hZ hP hV [.int (nI k), .int (M (6 + g) 0), .int (M (6 + g) 1)] (id := 11 + 3 * i) (by omega) (sh_r x _ (by omega)) rfl) rfl rfl hl.1 rfl (lv_room (Nat.le_of_ble_eq_true rfl)) dX1_lineMeets_10 ⟨Nat.le_of_ble_eq_true rfl, Nat.le_of_ble_eq_true rfl⟩) hV (fun H locs hP hV => ?_)
  refine lv_istore_n (lv' := [(3, .int (sideO (M (11 + 3 * i + 1)) (M (11 + 3 * i + 2)) k (M (6 + g) 0) (M (6 + g) 1))), (0, .ref (xa x (11 + 3 * i))), (1, .int (nI k)), (2, .ref (xa x (6 + g)))]) hx hb dX1_lineMeets_13 rfl hl (by decide) rfl (fun ls hl => ?_)
  refine lv_aload_n hx hb dX1_lineMeets_14 rfl (lv_at hl 1 rfl) ?_
  refine lv_iload_n hx hb dX1_lineMeets_15 rfl (lv_at hl 2 rfl) ?_
  refine lv_aload_n hx hb dX1_lineMeets_16 rfl (lv_at hl 3 rfl) ?_
  refine g_getN (C := RX0) (T := TX0) (N := 9) (host := RX2) (v := .int (M (6 + g) 2)) hx hb hts hinX0 hown hS hP (id := 6 + g) (by omega) (sh_g x _ (by omega)) rfl 2 (by decide) (by decide +kernel) rfl dX1_lineMeets_17 ?_
  refine lv_aload_n hx hb dX1_lineMeets_20 rfl (lv_at hl 3 rfl) ?_
  refine g_getN (C := RX0) (T := TX0) (N := 9) (host := RX2) (v := .int (M (6 + g) 1)) hx hb hts hinX0 hown hS hP (id := 6 + g) (by omega) (sh_g x _ (by omega)) rfl 1 (by decide) (by decide +kernel) rfl dX1_lineMeets_21 ?_
  refine g_call1 (va_runV (As := [.int (nI k), .int (M (6 + g) 2), .int (M (6 + g) 1)]) (rest := []) ⟨hx, hb, hml, hown, hts⟩ (c_X1_sideOf l x M i k (M (6 + g) 2) (M (6 + g) 1) (by omega) (by omega)) (cwV 3 hts gX1_lineMeets_X1_sideOf rfl rfl rfl (by decide +kernel) ⟨Nat.le_of_ble_eq_true rfl, Nat.le_of_ble_eq_true rfl⟩) (g_preV hS hZ hP hV [.int (nI k), .int (M (6 + g) 2), .int (M (6 + g) 1)] (id := 11 + 3 * i) (by omega) (sh_r x _ (by omega)) rfl) rfl rfl hl.1 rfl (lv_room (Nat.le_of_ble_eq_true rfl)) dX1_lineMeets_24 ⟨Nat.le_of_ble_eq_true rfl, Nat.le_of_ble_eq_true rfl⟩) hV (fun H locs hP hV => ?_)
  refine lv_istore (lv' := [(4, .int (sideO (M (11 + 3 * i + 1)) (M (11 + 3 * i + 2)) k (M (6 + g) 2) (M (6 + g) 1))), (3, .int (sideO (M (11 + 3 * i + 1)) (M (11 + 3 * i + 2)) k (M (6 + g) 0) (M (6 + g) 1))), (0, .ref (xa x (11 + 3 * i))), (1, .int (nI k)), (2, .ref (xa x (6 + g)))]) hx hb dX1_lineMeets_27 hl (by decide) rfl (fun ls hl => ?_)
  refine lv_aload_n hx hb dX1_lineMeets_29 rfl (lv_at hl 2 rfl) ?_
  refine lv_iload_n hx hb dX1_lineMeets_30 rfl (lv_at hl 3 rfl) ?_
  refine lv_aload_n hx hb dX1_lineMeets_31 rfl (lv_at hl 4 rfl) ?_
  refine g_getN (C := RX0) (T := TX0) (N := 9) (host := RX2) (v := .int (M (6 + g) 0)) hx hb hts hinX0 hown hS hP (id := 6 + g) (by omega) (sh_g x _ (by omega)) rfl 0 (by decide) (by decide +kernel) rfl dX1_lineMeets_32 ?_
  refine lv_aload_n hx hb dX1_lineMeets_35 rfl (lv_at hl 4 rfl) ?_
  refine g_getN (C := RX0) (T := TX0) (N := 9) (host := RX2) (v := .int (M (6 + g) 3)) hx hb hts hinX0 hown hS hP (id := 6 + g) (by omega) (sh_g x _ (by omega)) rfl 3 (by decide) (by decide +kernel) rfl dX1_lineMeets_36 ?_
  refine g_call1 (va_runV (As := [.int (nI k), .int (M (6 + g) 0), .int (M (6 + g) 3)]) (rest := []) ⟨hx, hb, hml, hown, hts⟩ (c_X1_sideOf l x M i k (M (6 + g) 0) (M (6 + g) 3) (by omega) (by omega)) (cwV 3 hts gX1_lineMeets_X1_sideOf rfl rfl rfl (by decide +kernel) ⟨Nat.le_of_ble_eq_true rfl, Nat.le_of_ble_eq_true rfl⟩) (g_preV hS hZ hP hV [.int (nI k), .int (M (6 + g) 0), .int (M (6 + g) 3)] (id := 11 + 3 * i) (by omega) (sh_r x _ (by omega)) rfl) rfl rfl hl.1 rfl (lv_room (Nat.le_of_ble_eq_true rfl)) dX1_lineMeets_39 ⟨Nat.le_of_ble_eq_true rfl, Nat.le_of_ble_eq_true rfl⟩) hV (fun H locs hP hV => ?_)
  refine lv_istore (lv' := [(5, .int (sideO (M (11 + 3 * i + 1)) (M (11 + 3 * i + 2)) k (M (6 + g) 0) (M (6 + g) 3))), (4, .int (sideO (M (11 + 3 * i + 1)) (M (11 + 3 * i + 2)) k (M (6 + g) 2) (M (6 + g) 1))), (3, .int (sideO (M (11 + 3 * i + 1)) (M (11 + 3 * i + 2)) k (M (6 + g) 0) (M (6 + g) 1))), (0, .ref (xa x (11 + 3 * i))), (1, .int (nI k)), (2, .ref (xa x (6 + g)))]) hx hb dX1_lineMeets_42 hl (by decide) rfl (fun ls hl => ?_)
  refine lv_aload_n hx hb dX1_lineMeets_44 rfl (lv_at hl 3 rfl) ?_
  refine lv_iload_n hx hb dX1_lineMeets_45 rfl (lv_at hl 4 rfl) ?_
  refine lv_aload_n hx hb dX1_lineMeets_46 rfl (lv_at hl 5 rfl) ?_
  refine g_getN (C := RX0) (T := TX0) (N := 9) (host := RX2) (v := .int (M (6 + g) 2)) hx hb hts hinX0 hown hS hP (id := 6 + g) (by omega) (sh_g x _ (by omega)) rfl 2 (by decide) (by decide +kernel) rfl dX1_lineMeets_47 ?_
  refine lv_aload_n hx hb dX1_lineMeets_50 rfl (lv_at hl 5 rfl) ?_
  refine g_getN (C := RX0) (T := TX0) (N := 9) (host := RX2) (v := .int (M (6 + g) 3)) hx hb hts hinX0 hown hS hP (id := 6 + g) (by omega) (sh_g x _ (by omega)) rfl 3 (by decide) (by decide +kernel) rfl dX1_lineMeets_51 ?_
  refine g_call1 (va_runV (As := [.int (nI k), .int (M (6 + g) 2), .int (M (6 + g) 3)]) (rest := []) ⟨hx, hb, hml, hown, hts⟩ (c_X1_sideOf l x M i k (M (6 + g) 2) (M (6 + g) 3) (by omega) (by omega)) (cwV 3 hts gX1_lineMeets_X1_sideOf rfl rfl rfl (by decide +kernel) ⟨Nat.le_of_ble_eq_true rfl, Nat.le_of_ble_eq_true rfl⟩) (g_preV hS hZ hP hV [.int (nI k), .int (M (6 + g) 2), .int (M (6 + g) 3)] (id := 11 + 3 * i) (by omega) (sh_r x _ (by omega)) rfl) rfl rfl hl.1 rfl (lv_room (Nat.le_of_ble_eq_true rfl)) dX1_lineMeets_54 ⟨Nat.le_of_ble_eq_true rfl, Nat.le_of_ble_eq_true rfl⟩) hV (fun H locs hP hV => ?_)
  refine lv_istore (lv' := [(6, .int (sideO (M (11 + 3 * i + 1)) (M (11 + 3 * i + 2)) k (M (6 + g) 2) (M (6 + g) 3))), (5, .int (sideO (M (11 + 3 * i + 1)) (M (11 + 3 * i + 2)) k (M (6 + g) 0) (M (6 + g) 3))), (4, .int (sideO (M (11 + 3 * i + 1)) (M (11 + 3 * i + 2)) k (M (6 + g) 2) (M (6 + g) 1))), (3, .int (sideO (M (11 + 3 * i + 1)) (M (11 + 3 * i + 2)) k (M (6 + g) 0) (M (6 + g) 1))), (0, .ref (xa x (11 + 3 * i))), (1, .int (nI k)), (2, .ref (xa x (6 + g)))]) hx hb dX1_lineMeets_57 hl (by decide) rfl (fun ls hl => ?_)
  refine lv_iload_n hx hb dX1_lineMeets_59 rfl (lv_at hl 3 rfl) ?_
  refine lv_iload hx hb dX1_lineMeets_60 (lv_at hl 2 rfl) ?_
  refine h_min hx hb (hml.trans hl.1.symm) hown hw_m35 hw_smin hw_iMath hw_cmin (Nat.le_of_ble_eq_true rfl) (Nat.le_of_ble_eq_true rfl) (Nat.le_of_ble_eq_true rfl) (Nat.le_of_ble_eq_true rfl) dX1_lineMeets_62 ?_
  refine lv_iload hx hb dX1_lineMeets_65 (lv_at hl 1 rfl) ?_
  refine lv_iload hx hb dX1_lineMeets_67 (lv_at hl 0 rfl) ?_
  refine h_min hx hb (hml.trans hl.1.symm) hown hw_m35 hw_smin hw_iMath hw_cmin (Nat.le_of_ble_eq_true rfl) (Nat.le_of_ble_eq_true rfl) (Nat.le_of_ble_eq_true rfl) (Nat.le_of_ble_eq_true rfl) dX1_lineMeets_69 ?_
  refine h_min hx hb (hml.trans hl.1.symm) hown hw_m35 hw_smin hw_iMath hw_cmin (Nat.le_of_ble_eq_true rfl) (Nat.le_of_ble_eq_true rfl) (Nat.le_of_ble_eq_true rfl) (Nat.le_of_ble_eq_true rfl) dX1_lineMeets_72 ?_
  refine lv_if_gt (tgt := 101) hx hb dX1_lineMeets_75 (by decide) (fun c_1 => ?_) (fun c_1 => ?_)
  · -- taken
    refine lv_iconst (v := 0) hx hb dX1_lineMeets_101 (by decide) ?_
    exact g_zret hx hb hr hlk hS hZ hP hV (Nat.le_of_ble_eq_true rfl) (Nat.le_of_ble_eq_true rfl) dX1_lineMeets_102 (by decide) (by simp [lmO, bI, c_1]) (by rfl)
  · -- on
    refine lv_iload_n hx hb dX1_lineMeets_78 rfl (lv_at hl 3 rfl) ?_
    refine lv_iload hx hb dX1_lineMeets_79 (lv_at hl 2 rfl) ?_
    refine h_max hx hb (hml.trans hl.1.symm) hown hw_m41 hw_smax hw_iMath hw_cmax (Nat.le_of_ble_eq_true rfl) (Nat.le_of_ble_eq_true rfl) (Nat.le_of_ble_eq_true rfl) (Nat.le_of_ble_eq_true rfl) dX1_lineMeets_81 ?_
    refine lv_iload hx hb dX1_lineMeets_84 (lv_at hl 1 rfl) ?_
    refine lv_iload hx hb dX1_lineMeets_86 (lv_at hl 0 rfl) ?_
    refine h_max hx hb (hml.trans hl.1.symm) hown hw_m41 hw_smax hw_iMath hw_cmax (Nat.le_of_ble_eq_true rfl) (Nat.le_of_ble_eq_true rfl) (Nat.le_of_ble_eq_true rfl) (Nat.le_of_ble_eq_true rfl) dX1_lineMeets_88 ?_
    refine h_max hx hb (hml.trans hl.1.symm) hown hw_m41 hw_smax hw_iMath hw_cmax (Nat.le_of_ble_eq_true rfl) (Nat.le_of_ble_eq_true rfl) (Nat.le_of_ble_eq_true rfl) (Nat.le_of_ble_eq_true rfl) dX1_lineMeets_91 ?_
    refine lv_if_lt (tgt := 101) hx hb dX1_lineMeets_94 (by decide) (fun c_2 => ?_) (fun c_2 => ?_)
    · -- taken
      refine lv_iconst (v := 0) hx hb dX1_lineMeets_101 (by decide) ?_
      exact g_zret hx hb hr hlk hS hZ hP hV (Nat.le_of_ble_eq_true rfl) (Nat.le_of_ble_eq_true rfl) dX1_lineMeets_102 (by decide) (by simp [lmO, bI, c_1, c_2]) (by rfl)
    · -- on
      refine lv_iconst (v := 1) hx hb dX1_lineMeets_97 (by decide) ?_
      refine lv_goto (tgt := 102) hx hb dX1_lineMeets_98 (by decide) ?_
      exact g_zret hx hb hr hlk hS hZ hP hV (Nat.le_of_ble_eq_true rfl) (Nat.le_of_ble_eq_true rfl) dX1_lineMeets_102 (by decide) (by simp [lmO, bI, c_1, c_2]) (by rfl)
set_option maxHeartbeats 4000000 in
set_option maxRecDepth 100000 in
theorem c_X1_pieceMeets (l : Launch) (x : Cx) (M : Nat → Nat → Int32) (i k g : Nat) (hi : i < 9) (hk : k + 1 < 8) (hg : g < 5) : Met l yX1_pieceMeets wsX1_pieceMeets ({ frames := 3, cells := 0, slots := 0, locals := 70 }) (gP x M [.ref (xa x (11 + 3 * i)), .int (nI k), .ref (xa x (6 + g))]) (gQ x (some (.int (bI (mtO (M (11 + 3 * i + 1)) (M (11 + 3 * i + 2)) k (M (6 + g) 0) (M (6 + g) 1) (M (6 + g) 2) (M (6 + g) 3))))) M) 0 0 (gF x) := by
  refine g_met (cc := cX1_pieceMeets) (maxL := 3) (ret := some .boolean) (by decide) rfl (Nat.le_of_ble_eq_true rfl) ?_
  intro p e s m below meth c hx hb hr hml hts hown hlk hS hZ hP hV ls hl
  have hl : lv_has ls 3 [(0, .ref (xa x (11 + 3 * i))), (1, .int (nI k)), (2, .ref (xa x (6 + g)))] := hl
  have hinX0 : ∀ w ∈ wsX00, w ∈ wsX1_pieceMeets := by decide +kernel
  refine lv_aload_n hx hb dX1_pieceMeets_0 rfl (lv_at hl 0 rfl) ?_
  refine lv_iload_n hx hb dX1_pieceMeets_1 rfl (lv_at hl 1 rfl) ?_
  refine lv_aload_n hx hb dX1_pieceMeets_2 rfl (lv_at hl 2 rfl) ?_
  refine g_getN (C := RX0) (T := TX0) (N := 9) (host := RX2) (v := .int (M (6 + g) 0)) hx hb hts hinX0 hown hS hP (id := 6 + g) (by omega) (sh_g x _ (by omega)) rfl 0 (by decide) (by decide +kernel) rfl dX1_pieceMeets_3 ?_
  refine lv_aload_n hx hb dX1_pieceMeets_6 rfl (lv_at hl 2 rfl) ?_
  refine g_getN (C := RX0) (T := TX0) (N := 9) (host := RX2) (v := .int (M (6 + g) 1)) hx hb hts hinX0 hown hS hP (id := 6 + g) (by omega) (sh_g x _ (by omega)) rfl 1 (by decide) (by decide +kernel) rfl dX1_pieceMeets_7 ?_
  refine lv_aload_n hx hb dX1_pieceMeets_10 rfl (lv_at hl 2 rfl) ?_
  refine g_getN (C := RX0) (T := TX0) (N := 9) (host := RX2) (v := .int (M (6 + g) 2)) hx hb hts hinX0 hown hS hP (id := 6 + g) (by omega) (sh_g x _ (by omega)) rfl 2 (by decide) (by decide +kernel) rfl dX1_pieceMeets_11 ?_
  refine lv_aload_n hx hb dX1_pieceMeets_14 rfl (lv_at hl 2 rfl) ?_
  refine g_getN (C := RX0) (T := TX0) (N := 9) (host := RX2) (v := .int (M (6 + g) 3)) hx hb hts hinX0 hown hS hP (id := 6 + g) (by omega) (sh_g x _ (by omega)) rfl 3 (by decide) (by decide +kernel) rfl dX1_pieceMeets_15 ?_
  refine g_call1 (va_runV (As := [.int (nI k), .int (M (6 + g) 0), .int (M (6 + g) 1), .int (M (6 + g) 2), .int (M (6 + g) 3)]) (rest := []) ⟨hx, hb, hml, hown, hts⟩ (c_X1_boxMeets l x M i k (M (6 + g) 0) (M (6 + g) 1) (M (6 + g) 2) (M (6 + g) 3) (by omega) (by omega)) (cwV 5 hts gX1_pieceMeets_X1_boxMeets rfl rfl rfl (by decide +kernel) ⟨Nat.le_of_ble_eq_true rfl, Nat.le_of_ble_eq_true rfl⟩) (g_preV hS hZ hP hV [.int (nI k), .int (M (6 + g) 0), .int (M (6 + g) 1), .int (M (6 + g) 2), .int (M (6 + g) 3)] (id := 11 + 3 * i) (by omega) (sh_r x _ (by omega)) rfl) rfl rfl hl.1 rfl (lv_room (Nat.le_of_ble_eq_true rfl)) dX1_pieceMeets_18 ⟨Nat.le_of_ble_eq_true rfl, Nat.le_of_ble_eq_true rfl⟩) hV (fun H locs hP hV => ?_)
  refine h_if_eq_b (tgt := 37) hx hb dX1_pieceMeets_21 (by decide) (fun c_1 => ?_) (fun c_1 => ?_)
  · -- taken
    refine lv_iconst (v := 0) hx hb dX1_pieceMeets_37 (by decide) ?_
    exact g_zret hx hb hr hlk hS hZ hP hV (Nat.le_of_ble_eq_true rfl) (Nat.le_of_ble_eq_true rfl) dX1_pieceMeets_38 (by decide) (by simp [mtO, bI, c_1]) (by rfl)
  · -- on
    refine lv_aload_n hx hb dX1_pieceMeets_24 rfl (lv_at hl 0 rfl) ?_
    refine lv_iload_n hx hb dX1_pieceMeets_25 rfl (lv_at hl 1 rfl) ?_
    refine lv_aload_n hx hb dX1_pieceMeets_26 rfl (lv_at hl 2 rfl) ?_
    refine g_call1 (va_runV (As := [.int (nI k), .ref (xa x (6 + g))]) (rest := []) ⟨hx, hb, hml, hown, hts⟩ (c_X1_lineMeets l x M i k g (by omega) (by omega) (by omega)) (cwV 2 hts gX1_pieceMeets_X1_lineMeets rfl rfl rfl (by decide +kernel) ⟨Nat.le_of_ble_eq_true rfl, Nat.le_of_ble_eq_true rfl⟩) (g_preV hS hZ hP hV [.int (nI k), .ref (xa x (6 + g))] (id := 11 + 3 * i) (by omega) (sh_r x _ (by omega)) rfl) rfl rfl hl.1 rfl (lv_room (Nat.le_of_ble_eq_true rfl)) dX1_pieceMeets_27 ⟨Nat.le_of_ble_eq_true rfl, Nat.le_of_ble_eq_true rfl⟩) hV (fun H locs hP hV => ?_)
    refine h_if_eq_b (tgt := 37) hx hb dX1_pieceMeets_30 (by decide) (fun c_2 => ?_) (fun c_2 => ?_)
    · -- taken
      refine lv_iconst (v := 0) hx hb dX1_pieceMeets_37 (by decide) ?_
      exact g_zret hx hb hr hlk hS hZ hP hV (Nat.le_of_ble_eq_true rfl) (Nat.le_of_ble_eq_true rfl) dX1_pieceMeets_38 (by decide) (by simp [mtO, bI, c_1, c_2]) (by rfl)
    · -- on
      refine lv_iconst (v := 1) hx hb dX1_pieceMeets_33 (by decide) ?_
      refine lv_goto (tgt := 38) hx hb dX1_pieceMeets_34 (by decide) ?_
      exact g_zret hx hb hr hlk hS hZ hP hV (Nat.le_of_ble_eq_true rfl) (Nat.le_of_ble_eq_true rfl) dX1_pieceMeets_38 (by decide) (by simp [mtO, bI, c_1, c_2]) (by rfl)
set_option maxHeartbeats 4000000 in
set_option maxRecDepth 100000 in
theorem c_X1_isAt (l : Launch) (x : Cx) (M : Nat → Nat → Int32) (i n : Nat) (q px py : Int32) (hi : i < 9) (hn : M (11 + 3 * i) 2 = nI n) (hn8 : n ≤ 8) : Met l yX1_isAt wsX1_isAt ({ frames := 0, cells := 0, slots := 0, locals := 0 }) (gP x M [.ref (xa x (11 + 3 * i)), .int q, .int px, .int py]) (gQ x (some (.int (bI (atO (M (11 + 3 * i) 2) (M (11 + 3 * i + 1)) (M (11 + 3 * i + 2)) q px py)))) M) 0 0 (gF x) := by
  refine g_met (cc := cX1_isAt) (maxL := 4) (ret := some .boolean) (by decide) rfl (Nat.le_of_ble_eq_true rfl) ?_
  intro p e s m below meth c hx hb hr hml hts hown hlk hS hZ hP hV ls hl
  have hl : lv_has ls 4 [(0, .ref (xa x (11 + 3 * i))), (1, .int q), (2, .int px), (3, .int py)] := hl
  have hw_f18 := hts (.fieldLink RX1 18 "CableOffice$Route" "points" "I") (by decide +kernel)
  have hinX1 : ∀ w ∈ wsX10, w ∈ wsX1_isAt := by decide +kernel
  have hw_f9 := hts (.fieldLink RX1 9 "CableOffice$Route" "x" "[I") (by decide +kernel)
  have hw_f15 := hts (.fieldLink RX1 15 "CableOffice$Route" "y" "[I") (by decide +kernel)
  refine lv_iload_n hx hb dX1_isAt_0 rfl (lv_at hl 1 rfl) ?_
  refine lv_if_lt (tgt := 36) hx hb dX1_isAt_1 (by decide) (fun c_1 => ?_) (fun c_1 => ?_)
  · -- taken
    refine lv_iconst (v := 0) hx hb dX1_isAt_36 (by decide) ?_
    exact g_zret hx hb hr hlk hS hZ hP hV (Nat.le_of_ble_eq_true rfl) (Nat.le_of_ble_eq_true rfl) dX1_isAt_37 (by decide) (by simp [atO, bI, c_1]) (by rfl)
  · -- on
    refine lv_iload_n hx hb dX1_isAt_4 rfl (lv_at hl 1 rfl) ?_
    refine lv_aload_n hx hb dX1_isAt_5 rfl (lv_at hl 0 rfl) ?_
    refine g_get (C := RX1) (T := TX1) (N := 3) (v := .int (M (11 + 3 * i) 2)) hx hb hts hinX1 hown hS hP (id := 11 + 3 * i) (by omega) (sh_r x _ (by omega)) rfl 2 (by decide) hw_f18 rfl dX1_isAt_6 ?_
    refine lv_icmp_ge (tgt := 36) hx hb dX1_isAt_9 (by decide) (fun c_2 => ?_) (fun c_2 => ?_)
    · -- taken
      refine lv_iconst (v := 0) hx hb dX1_isAt_36 (by decide) ?_
      exact g_zret hx hb hr hlk hS hZ hP hV (Nat.le_of_ble_eq_true rfl) (Nat.le_of_ble_eq_true rfl) dX1_isAt_37 (by decide) (by simp [atO, bI, c_1, c_2]) (by rfl)
    · -- on
      obtain ⟨j, hj, rfl⟩ := h_idx c_1 c_2 hn
      refine lv_aload_n hx hb dX1_isAt_12 rfl (lv_at hl 0 rfl) ?_
      refine g_get (C := RX1) (T := TX1) (N := 3) (v := .ref (xa x (11 + 3 * i + 1))) hx hb hts hinX1 hown hS hP (id := 11 + 3 * i) (by omega) (sh_r x _ (by omega)) rfl 0 (by decide) hw_f9 rfl dX1_isAt_13 ?_
      refine lv_iload_n hx hb dX1_isAt_16 rfl (lv_at hl 1 rfl) ?_
      refine g_iald (j := j) hx hb hS hP (id := 11 + 3 * i + 1) (by omega) ((fun r => sh_x x r (by omega)) _) (by decide) rfl (by omega) dX1_isAt_17 ?_
      refine lv_iload_n hx hb dX1_isAt_18 rfl (lv_at hl 2 rfl) ?_
      refine lv_icmp_ne (tgt := 36) hx hb dX1_isAt_19 (by decide) (fun c_3 => ?_) (fun c_3 => ?_)
      · -- taken
        refine lv_iconst (v := 0) hx hb dX1_isAt_36 (by decide) ?_
        exact g_zret hx hb hr hlk hS hZ hP hV (Nat.le_of_ble_eq_true rfl) (Nat.le_of_ble_eq_true rfl) dX1_isAt_37 (by decide) (by simp [atO, bI, c_1, c_2, c_3, nI_clamp (show j < 2 ^ 31 by omega)]) (by rfl)
      · -- on
        refine lv_aload_n hx hb dX1_isAt_22 rfl (lv_at hl 0 rfl) ?_
        refine g_get (C := RX1) (T := TX1) (N := 3) (v := .ref (xa x (11 + 3 * i + 2))) hx hb hts hinX1 hown hS hP (id := 11 + 3 * i) (by omega) (sh_r x _ (by omega)) rfl 1 (by decide) hw_f15 rfl dX1_isAt_23 ?_
        refine lv_iload_n hx hb dX1_isAt_26 rfl (lv_at hl 1 rfl) ?_
        refine g_iald (j := j) hx hb hS hP (id := 11 + 3 * i + 2) (by omega) ((fun r => sh_y x r (by omega)) _) (by decide) rfl (by omega) dX1_isAt_27 ?_
        refine lv_iload_n hx hb dX1_isAt_28 rfl (lv_at hl 3 rfl) ?_
        refine lv_icmp_ne (tgt := 36) hx hb dX1_isAt_29 (by decide) (fun c_4 => ?_) (fun c_4 => ?_)
        · -- taken
          refine lv_iconst (v := 0) hx hb dX1_isAt_36 (by decide) ?_
          exact g_zret hx hb hr hlk hS hZ hP hV (Nat.le_of_ble_eq_true rfl) (Nat.le_of_ble_eq_true rfl) dX1_isAt_37 (by decide) (by simp [atO, bI, c_1, c_2, c_3, c_4, nI_clamp (show j < 2 ^ 31 by omega)]) (by rfl)
        · -- on
          refine lv_iconst (v := 1) hx hb dX1_isAt_32 (by decide) ?_
          refine lv_goto (tgt := 37) hx hb dX1_isAt_33 (by decide) ?_
          exact g_zret hx hb hr hlk hS hZ hP hV (Nat.le_of_ble_eq_true rfl) (Nat.le_of_ble_eq_true rfl) dX1_isAt_37 (by decide) (by simp [atO, bI, c_1, c_2, c_3, c_4, nI_clamp (show j < 2 ^ 31 by omega)]) (by rfl)
set_option maxHeartbeats 4000000 in
set_option maxRecDepth 100000 in
theorem c_X0_isShutIn (l : Launch) (x : Cx) (M : Nat → Nat → Int32) (g : Nat) (mo : Int32) (hg : g < 5) : Met l yX0_isShutIn wsX0_isShutIn ({ frames := 0, cells := 0, slots := 0, locals := 0 }) (gP x M [.ref (xa x (6 + g)), .int mo]) (gQ x (some (.int (bI (shutO (M (6 + g) 4) (M (6 + g) 5) mo)))) M) 0 0 (gF x) := by
  refine g_met (cc := cX0_isShutIn) (maxL := 2) (ret := some .boolean) (by decide) rfl (Nat.le_of_ble_eq_true rfl) ?_
  intro p e s m below meth c hx hb hr hml hts hown hlk hS hZ hP hV ls hl
  have hl : lv_has ls 2 [(0, .ref (xa x (6 + g))), (1, .int mo)] := hl
  have hw_f22 := hts (.fieldLink RX0 22 "CableOffice$Ground" "from" "I") (by decide +kernel)
  have hinX0 : ∀ w ∈ wsX00, w ∈ wsX0_isShutIn := by decide +kernel
  have hw_f25 := hts (.fieldLink RX0 25 "CableOffice$Ground" "to" "I") (by decide +kernel)
  refine lv_aload_n hx hb dX0_isShutIn_0 rfl (lv_at hl 0 rfl) ?_
  refine g_get (C := RX0) (T := TX0) (N := 9) (v := .int (M (6 + g) 4)) hx hb hts hinX0 hown hS hP (id := 6 + g) (by omega) (sh_g x _ (by omega)) rfl 4 (by decide) hw_f22 rfl dX0_isShutIn_1 ?_
  refine lv_aload_n hx hb dX0_isShutIn_4 rfl (lv_at hl 0 rfl) ?_
  refine g_get (C := RX0) (T := TX0) (N := 9) (v := .int (M (6 + g) 5)) hx hb hts hinX0 hown hS hP (id := 6 + g) (by omega) (sh_g x _ (by omega)) rfl 5 (by decide) hw_f25 rfl dX0_isShutIn_5 ?_
  refine lv_icmp_gt (tgt := 33) hx hb dX0_isShutIn_8 (by decide) (fun c_1 => ?_) (fun c_1 => ?_)
  · -- taken
    refine lv_aload_n hx hb dX0_isShutIn_33 rfl (lv_at hl 0 rfl) ?_
    refine g_get (C := RX0) (T := TX0) (N := 9) (v := .int (M (6 + g) 4)) hx hb hts hinX0 hown hS hP (id := 6 + g) (by omega) (sh_g x _ (by omega)) rfl 4 (by decide) hw_f22 rfl dX0_isShutIn_34 ?_
    refine lv_iload_n hx hb dX0_isShutIn_37 rfl (lv_at hl 1 rfl) ?_
    refine lv_icmp_le (tgt := 49) hx hb dX0_isShutIn_38 (by decide) (fun c_2 => ?_) (fun c_2 => ?_)
    · -- taken
      refine lv_iconst (v := 1) hx hb dX0_isShutIn_49 (by decide) ?_
      refine lv_goto (tgt := 54) hx hb dX0_isShutIn_50 (by decide) ?_
      exact g_zret hx hb hr hlk hS hZ hP hV (Nat.le_of_ble_eq_true rfl) (Nat.le_of_ble_eq_true rfl) dX0_isShutIn_54 (by decide) (by simp [shutO, bI, c_1, c_2]) (by rfl)
    · -- on
      refine lv_iload_n hx hb dX0_isShutIn_41 rfl (lv_at hl 1 rfl) ?_
      refine lv_aload_n hx hb dX0_isShutIn_42 rfl (lv_at hl 0 rfl) ?_
      refine g_get (C := RX0) (T := TX0) (N := 9) (v := .int (M (6 + g) 5)) hx hb hts hinX0 hown hS hP (id := 6 + g) (by omega) (sh_g x _ (by omega)) rfl 5 (by decide) hw_f25 rfl dX0_isShutIn_43 ?_
      refine lv_icmp_gt (tgt := 53) hx hb dX0_isShutIn_46 (by decide) (fun c_3 => ?_) (fun c_3 => ?_)
      · -- taken
        refine lv_iconst (v := 0) hx hb dX0_isShutIn_53 (by decide) ?_
        exact g_zret hx hb hr hlk hS hZ hP hV (Nat.le_of_ble_eq_true rfl) (Nat.le_of_ble_eq_true rfl) dX0_isShutIn_54 (by decide) (by simp [shutO, bI, c_1, c_2, c_3]) (by rfl)
      · -- on
        refine lv_iconst (v := 1) hx hb dX0_isShutIn_49 (by decide) ?_
        refine lv_goto (tgt := 54) hx hb dX0_isShutIn_50 (by decide) ?_
        exact g_zret hx hb hr hlk hS hZ hP hV (Nat.le_of_ble_eq_true rfl) (Nat.le_of_ble_eq_true rfl) dX0_isShutIn_54 (by decide) (by simp [shutO, bI, c_1, c_2, c_3]) (by rfl)
  · -- on
    refine lv_aload_n hx hb dX0_isShutIn_11 rfl (lv_at hl 0 rfl) ?_
    refine g_get (C := RX0) (T := TX0) (N := 9) (v := .int (M (6 + g) 4)) hx hb hts hinX0 hown hS hP (id := 6 + g) (by omega) (sh_g x _ (by omega)) rfl 4 (by decide) hw_f22 rfl dX0_isShutIn_12 ?_
    refine lv_iload_n hx hb dX0_isShutIn_15 rfl (lv_at hl 1 rfl) ?_
    refine lv_icmp_gt (tgt := 31) hx hb dX0_isShutIn_16 (by decide) (fun c_4 => ?_) (fun c_4 => ?_)
    · -- taken
      refine lv_iconst (v := 0) hx hb dX0_isShutIn_31 (by decide) ?_
      exact g_zret hx hb hr hlk hS hZ hP hV (Nat.le_of_ble_eq_true rfl) (Nat.le_of_ble_eq_true rfl) dX0_isShutIn_32 (by decide) (by simp [shutO, bI, c_1, c_4]) (by rfl)
    · -- on
      refine lv_iload_n hx hb dX0_isShutIn_19 rfl (lv_at hl 1 rfl) ?_
      refine lv_aload_n hx hb dX0_isShutIn_20 rfl (lv_at hl 0 rfl) ?_
      refine g_get (C := RX0) (T := TX0) (N := 9) (v := .int (M (6 + g) 5)) hx hb hts hinX0 hown hS hP (id := 6 + g) (by omega) (sh_g x _ (by omega)) rfl 5 (by decide) hw_f25 rfl dX0_isShutIn_21 ?_
      refine lv_icmp_gt (tgt := 31) hx hb dX0_isShutIn_24 (by decide) (fun c_5 => ?_) (fun c_5 => ?_)
      · -- taken
        refine lv_iconst (v := 0) hx hb dX0_isShutIn_31 (by decide) ?_
        exact g_zret hx hb hr hlk hS hZ hP hV (Nat.le_of_ble_eq_true rfl) (Nat.le_of_ble_eq_true rfl) dX0_isShutIn_32 (by decide) (by simp [shutO, bI, c_1, c_4, c_5]) (by rfl)
      · -- on
        refine lv_iconst (v := 1) hx hb dX0_isShutIn_27 (by decide) ?_
        refine lv_goto (tgt := 32) hx hb dX0_isShutIn_28 (by decide) ?_
        exact g_zret hx hb hr hlk hS hZ hP hV (Nat.le_of_ble_eq_true rfl) (Nat.le_of_ble_eq_true rfl) dX0_isShutIn_32 (by decide) (by simp [shutO, bI, c_1, c_4, c_5]) (by rfl)
set_option maxHeartbeats 4000000 in
set_option maxRecDepth 100000 in
theorem c_X0_price (l : Launch) (x : Cx) (M : Nat → Nat → Int32) (g : Nat) (hg : g < 5) : Met l yX0_price wsX0_price ({ frames := 0, cells := 0, slots := 0, locals := 0 }) (gP x M [.ref (xa x (6 + g))]) (gQ x (some (.int (prO (M (6 + g) 6) (M (6 + g) 7)))) M) 0 0 (gF x) := by
  refine g_met (cc := cX0_price) (maxL := 1) (ret := some .int) (by decide) rfl (Nat.le_of_ble_eq_true rfl) ?_
  intro p e s m below meth c hx hb hr hml hts hown hlk hS hZ hP hV ls hl
  have hl : lv_has ls 1 [(0, .ref (xa x (6 + g)))] := hl
  have hw_f28 := hts (.fieldLink RX0 28 "CableOffice$Ground" "catches" "I") (by decide +kernel)
  have hinX0 : ∀ w ∈ wsX00, w ∈ wsX0_price := by decide +kernel
  have hw_f31 := hts (.fieldLink RX0 31 "CableOffice$Ground" "catchSum" "I") (by decide +kernel)
  refine lv_aload_n hx hb dX0_price_0 rfl (lv_at hl 0 rfl) ?_
  refine g_get (C := RX0) (T := TX0) (N := 9) (v := .int (M (6 + g) 6)) hx hb hts hinX0 hown hS hP (id := 6 + g) (by omega) (sh_g x _ (by omega)) rfl 6 (by decide) hw_f28 rfl dX0_price_1 ?_
  refine lv_if_le (tgt := 19) hx hb dX0_price_4 (by decide) (fun c_1 => ?_) (fun c_1 => ?_)
  · -- taken
    refine lv_iconst (v := 0) hx hb dX0_price_19 (by decide) ?_
    exact g_iret hx hb hr hlk hS hZ hP hV (Nat.le_of_ble_eq_true rfl) (Nat.le_of_ble_eq_true rfl) dX0_price_20 (by simp [prO, c_1]) (by rfl)
  · -- on
    refine lv_aload_n hx hb dX0_price_7 rfl (lv_at hl 0 rfl) ?_
    refine g_get (C := RX0) (T := TX0) (N := 9) (v := .int (M (6 + g) 7)) hx hb hts hinX0 hown hS hP (id := 6 + g) (by omega) (sh_g x _ (by omega)) rfl 7 (by decide) hw_f31 rfl dX0_price_8 ?_
    refine lv_aload_n hx hb dX0_price_11 rfl (lv_at hl 0 rfl) ?_
    refine g_get (C := RX0) (T := TX0) (N := 9) (v := .int (M (6 + g) 6)) hx hb hts hinX0 hown hS hP (id := 6 + g) (by omega) (sh_g x _ (by omega)) rfl 6 (by decide) hw_f28 rfl dX0_price_12 ?_
    refine lv_idiv hx hb dX0_price_15 (h_ne0 c_1) ?_
    refine lv_goto (tgt := 20) hx hb dX0_price_16 (by decide) ?_
    exact g_iret hx hb hr hlk hS hZ hP hV (Nat.le_of_ble_eq_true rfl) (Nat.le_of_ble_eq_true rfl) dX0_price_20 (by simp [prO, c_1]) (by rfl)
set_option maxHeartbeats 4000000 in
set_option maxRecDepth 100000 in
theorem c_X0_setBounds (l : Launch) (x : Cx) (M : Nat → Nat → Int32) (g : Nat) (le lo ri hh : Int32) (hg : g < 5) : Met l yX0_setBounds wsX0_setBounds ({ frames := 0, cells := 0, slots := 0, locals := 0 }) (gP x M [.ref (xa x (6 + g)), .int le, .int lo, .int ri, .int hh]) (gQ x none (up2 (up2 (up2 (up2 M (6 + g) 0 le) (6 + g) 1 lo) (6 + g) 2 ri) (6 + g) 3 hh)) 0 0 (gF x) := by
  refine g_met (cc := cX0_setBounds) (maxL := 5) (ret := none) (by decide) rfl (Nat.le_of_ble_eq_true rfl) ?_
  intro p e s m below meth c hx hb hr hml hts hown hlk hS hZ hP hV ls hl
  have hl : lv_has ls 5 [(0, .ref (xa x (6 + g))), (1, .int le), (2, .int lo), (3, .int ri), (4, .int hh)] := hl
  have hw_f7 := hts (.fieldLink RX0 7 "CableOffice$Ground" "left" "I") (by decide +kernel)
  have hinX0 : ∀ w ∈ wsX00, w ∈ wsX0_setBounds := by decide +kernel
  have hw_f13 := hts (.fieldLink RX0 13 "CableOffice$Ground" "low" "I") (by decide +kernel)
  have hw_f16 := hts (.fieldLink RX0 16 "CableOffice$Ground" "right" "I") (by decide +kernel)
  have hw_f19 := hts (.fieldLink RX0 19 "CableOffice$Ground" "high" "I") (by decide +kernel)
  refine lv_aload_n hx hb dX0_setBounds_0 rfl (lv_at hl 0 rfl) ?_
  refine lv_iload_n hx hb dX0_setBounds_1 rfl (lv_at hl 1 rfl) ?_
  refine g_put (C := RX0) (T := TX0) (N := 9) hx hb hts hinX0 tyX0 tyX0_ok nmX0 hown hS hP hV (id := 6 + g) (by omega) (sh_g x _ (by omega)) rfl 0 (by decide) hw_f7 rfl (by decide +kernel) (Nat.le_of_ble_eq_true rfl) ((sh_g x _ (by omega)).trans rfl) dX0_setBounds_2 (fun H locs hP hV => ?_)
  refine lv_aload_n hx hb dX0_setBounds_5 rfl (lv_at hl 0 rfl) ?_
  refine lv_iload_n hx hb dX0_setBounds_6 rfl (lv_at hl 2 rfl) ?_
  refine g_put (C := RX0) (T := TX0) (N := 9) hx hb hts hinX0 tyX0 tyX0_ok nmX0 hown hS hP hV (id := 6 + g) (by omega) (sh_g x _ (by omega)) rfl 1 (by decide) hw_f13 rfl (by decide +kernel) (Nat.le_of_ble_eq_true rfl) ((sh_g x _ (by omega)).trans rfl) dX0_setBounds_7 (fun H locs hP hV => ?_)
  refine lv_aload_n hx hb dX0_setBounds_10 rfl (lv_at hl 0 rfl) ?_
  refine lv_iload_n hx hb dX0_setBounds_11 rfl (lv_at hl 3 rfl) ?_
  refine g_put (C := RX0) (T := TX0) (N := 9) hx hb hts hinX0 tyX0 tyX0_ok nmX0 hown hS hP hV (id := 6 + g) (by omega) (sh_g x _ (by omega)) rfl 2 (by decide) hw_f16 rfl (by decide +kernel) (Nat.le_of_ble_eq_true rfl) ((sh_g x _ (by omega)).trans rfl) dX0_setBounds_12 (fun H locs hP hV => ?_)
  refine lv_aload_n hx hb dX0_setBounds_15 rfl (lv_at hl 0 rfl) ?_
  refine lv_iload hx hb dX0_setBounds_16 (lv_at hl 4 rfl) ?_
  refine g_put (C := RX0) (T := TX0) (N := 9) hx hb hts hinX0 tyX0 tyX0_ok nmX0 hown hS hP hV (id := 6 + g) (by omega) (sh_g x _ (by omega)) rfl 3 (by decide) hw_f19 rfl (by decide +kernel) (Nat.le_of_ble_eq_true rfl) ((sh_g x _ (by omega)).trans rfl) dX0_setBounds_18 (fun H locs hP hV => ?_)
  exact g_vret hx hb hr hlk hS hZ hP hV (Nat.le_of_ble_eq_true rfl) (Nat.le_of_ble_eq_true rfl) dX0_setBounds_21 (by rfl)
set_option maxHeartbeats 4000000 in
set_option maxRecDepth 100000 in
theorem c_X0_setMonths (l : Launch) (x : Cx) (M : Nat → Nat → Int32) (g : Nat) (fr to : Int32) (hg : g < 5) : Met l yX0_setMonths wsX0_setMonths ({ frames := 0, cells := 0, slots := 0, locals := 0 }) (gP x M [.ref (xa x (6 + g)), .int fr, .int to]) (gQ x none (up2 (up2 M (6 + g) 4 fr) (6 + g) 5 to)) 0 0 (gF x) := by
  refine g_met (cc := cX0_setMonths) (maxL := 3) (ret := none) (by decide) rfl (Nat.le_of_ble_eq_true rfl) ?_
  intro p e s m below meth c hx hb hr hml hts hown hlk hS hZ hP hV ls hl
  have hl : lv_has ls 3 [(0, .ref (xa x (6 + g))), (1, .int fr), (2, .int to)] := hl
  have hw_f22 := hts (.fieldLink RX0 22 "CableOffice$Ground" "from" "I") (by decide +kernel)
  have hinX0 : ∀ w ∈ wsX00, w ∈ wsX0_setMonths := by decide +kernel
  have hw_f25 := hts (.fieldLink RX0 25 "CableOffice$Ground" "to" "I") (by decide +kernel)
  refine lv_aload_n hx hb dX0_setMonths_0 rfl (lv_at hl 0 rfl) ?_
  refine lv_iload_n hx hb dX0_setMonths_1 rfl (lv_at hl 1 rfl) ?_
  refine g_put (C := RX0) (T := TX0) (N := 9) hx hb hts hinX0 tyX0 tyX0_ok nmX0 hown hS hP hV (id := 6 + g) (by omega) (sh_g x _ (by omega)) rfl 4 (by decide) hw_f22 rfl (by decide +kernel) (Nat.le_of_ble_eq_true rfl) ((sh_g x _ (by omega)).trans rfl) dX0_setMonths_2 (fun H locs hP hV => ?_)
  refine lv_aload_n hx hb dX0_setMonths_5 rfl (lv_at hl 0 rfl) ?_
  refine lv_iload_n hx hb dX0_setMonths_6 rfl (lv_at hl 2 rfl) ?_
  refine g_put (C := RX0) (T := TX0) (N := 9) hx hb hts hinX0 tyX0 tyX0_ok nmX0 hown hS hP hV (id := 6 + g) (by omega) (sh_g x _ (by omega)) rfl 5 (by decide) hw_f25 rfl (by decide +kernel) (Nat.le_of_ble_eq_true rfl) ((sh_g x _ (by omega)).trans rfl) dX0_setMonths_7 (fun H locs hP hV => ?_)
  exact g_vret hx hb hr hlk hS hZ hP hV (Nat.le_of_ble_eq_true rfl) (Nat.le_of_ble_eq_true rfl) dX0_setMonths_10 (by rfl)
set_option maxHeartbeats 4000000 in
set_option maxRecDepth 100000 in
theorem c_X1_add (l : Launch) (x : Cx) (M : Nat → Nat → Int32) (i n : Nat) (px py : Int32) (hi : i < 9) (hn : M (11 + 3 * i) 2 = nI n) (hn8 : n < 8) : Met l yX1_add wsX1_add ({ frames := 0, cells := 0, slots := 0, locals := 0 }) (gP x M [.ref (xa x (11 + 3 * i)), .int px, .int py]) (gQ x none (up2 (up2 (up2 M (11 + 3 * i + 1) n px) (11 + 3 * i + 2) n py) (11 + 3 * i) 2 (nI (n + 1)))) 0 0 (gF x) := by
  refine g_met (cc := cX1_add) (maxL := 3) (ret := none) (by decide) rfl (Nat.le_of_ble_eq_true rfl) ?_
  intro p e s m below meth c hx hb hr hml hts hown hlk hS hZ hP hV ls hl
  have hl : lv_has ls 3 [(0, .ref (xa x (11 + 3 * i))), (1, .int px), (2, .int py)] := hl
  have hw_f9 := hts (.fieldLink RX1 9 "CableOffice$Route" "x" "[I") (by decide +kernel)
  have hinX1 : ∀ w ∈ wsX10, w ∈ wsX1_add := by decide +kernel
  have hw_f18 := hts (.fieldLink RX1 18 "CableOffice$Route" "points" "I") (by decide +kernel)
  have hw_f15 := hts (.fieldLink RX1 15 "CableOffice$Route" "y" "[I") (by decide +kernel)
  refine lv_aload_n hx hb dX1_add_0 rfl (lv_at hl 0 rfl) ?_
  refine g_get (C := RX1) (T := TX1) (N := 3) (v := .ref (xa x (11 + 3 * i + 1))) hx hb hts hinX1 hown hS hP (id := 11 + 3 * i) (by omega) (sh_r x _ (by omega)) rfl 0 (by decide) hw_f9 rfl dX1_add_1 ?_
  refine lv_aload_n hx hb dX1_add_4 rfl (lv_at hl 0 rfl) ?_
  refine g_get (C := RX1) (T := TX1) (N := 3) (v := .int (nI n)) hx hb hts hinX1 hown hS hP (id := 11 + 3 * i) (by omega) (sh_r x _ (by omega)) rfl 2 (by decide) hw_f18 (congrArg (fun z => some (Value.int z)) hn) dX1_add_5 ?_
  refine lv_iload_n hx hb dX1_add_8 rfl (lv_at hl 1 rfl) ?_
  refine g_iast (j := n) hx hb hS hP hV (id := 11 + 3 * i + 1) (by omega) (fun r => sh_x x r (by omega)) (by decide) rfl (by omega) dX1_add_9 (fun H locs hP hV => ?_)
  have hn_1 : (up2 M (11 + 3 * i + 1) n px) (11 + 3 * i) 2 = nI n := by simp only [up2]; rw [if_neg (by omega)]; exact hn
  refine lv_aload_n hx hb dX1_add_10 rfl (lv_at hl 0 rfl) ?_
  refine g_get (C := RX1) (T := TX1) (N := 3) (v := .ref (xa x (11 + 3 * i + 2))) hx hb hts hinX1 hown hS hP (id := 11 + 3 * i) (by omega) (sh_r x _ (by omega)) rfl 1 (by decide) hw_f15 rfl dX1_add_11 ?_
  refine lv_aload_n hx hb dX1_add_14 rfl (lv_at hl 0 rfl) ?_
  refine g_get (C := RX1) (T := TX1) (N := 3) (v := .int (nI n)) hx hb hts hinX1 hown hS hP (id := 11 + 3 * i) (by omega) (sh_r x _ (by omega)) rfl 2 (by decide) hw_f18 (congrArg (fun z => some (Value.int z)) hn_1) dX1_add_15 ?_
  refine lv_iload_n hx hb dX1_add_18 rfl (lv_at hl 2 rfl) ?_
  refine g_iast (j := n) hx hb hS hP hV (id := 11 + 3 * i + 2) (by omega) (fun r => sh_y x r (by omega)) (by decide) rfl (by omega) dX1_add_19 (fun H locs hP hV => ?_)
  have hn_2 : (up2 (up2 M (11 + 3 * i + 1) n px) (11 + 3 * i + 2) n py) (11 + 3 * i) 2 = nI n := by simp only [up2]; rw [if_neg (by omega)]; exact hn_1
  refine lv_aload_n hx hb dX1_add_20 rfl (lv_at hl 0 rfl) ?_
  refine lv_dup hx hb dX1_add_21 rfl ?_
  refine g_get (C := RX1) (T := TX1) (N := 3) (v := .int (nI n)) hx hb hts hinX1 hown hS hP (id := 11 + 3 * i) (by omega) (sh_r x _ (by omega)) rfl 2 (by decide) hw_f18 (congrArg (fun z => some (Value.int z)) hn_2) dX1_add_22 ?_
  refine lv_iconst (v := 1) hx hb dX1_add_25 (by decide) ?_
  refine h_iadd (v := nI (n + 1)) hx hb dX1_add_26 (nI_add (n) (1)) ?_
  refine g_put (C := RX1) (T := TX1) (N := 3) hx hb hts hinX1 tyX1 tyX1_ok nmX1 hown hS hP hV (id := 11 + 3 * i) (by omega) (sh_r x _ (by omega)) rfl 2 (by decide) hw_f18 rfl (by decide +kernel) (Nat.le_of_ble_eq_true rfl) ((sh_r x _ (by omega)).trans rfl) dX1_add_27 (fun H locs hP hV => ?_)
  exact g_vret hx hb hr hlk hS hZ hP hV (Nat.le_of_ble_eq_true rfl) (Nat.le_of_ble_eq_true rfl) dX1_add_30 (by rfl)
set_option maxHeartbeats 4000000 in
set_option maxRecDepth 100000 in
theorem c_X1_takeAllOf (l : Launch) (x : Cx) (M : Nat → Nat → Int32) (i j : Nat) (hi : i < 9) (hj : j < 9) : Met l yX1_takeAllOf wsX1_takeAllOf ({ frames := 1, cells := 0, slots := 0, locals := 60 }) (gP x M [.ref (xa x (11 + 3 * i)), .ref (xa x (11 + 3 * j))]) (gQ x none (up2 (cpR (cpR M (11 + 3 * j + 1) (11 + 3 * i + 1)) (11 + 3 * j + 2) (11 + 3 * i + 2)) (11 + 3 * i) 2 ((cpR (cpR M (11 + 3 * j + 1) (11 + 3 * i + 1)) (11 + 3 * j + 2) (11 + 3 * i + 2)) (11 + 3 * j) 2))) 0 0 (gF x) := by
  refine g_met (cc := cX1_takeAllOf) (maxL := 2) (ret := none) (by decide) rfl (Nat.le_of_ble_eq_true rfl) ?_
  intro p e s m below meth c hx hb hr hml hts hown hlk hS hZ hP hV ls hl
  have hl : lv_has ls 2 [(0, .ref (xa x (11 + 3 * i))), (1, .ref (xa x (11 + 3 * j)))] := hl
  have hw_f9 := hts (.fieldLink RX1 9 "CableOffice$Route" "x" "[I") (by decide +kernel)
  have hinX1 : ∀ w ∈ wsX10, w ∈ wsX1_takeAllOf := by decide +kernel
  have hw_m22 := hts (.methodLink RX1 22 arraycopyName) (by decide +kernel)
  have hw_ncopy := hts (.native arraycopyName) (by decide +kernel)
  have hw_scopy := hts (.static arraycopyName) (by decide +kernel)
  have hw_iSystem := hts (.initialized "java/lang/System") (by decide +kernel)
  have hw_f15 := hts (.fieldLink RX1 15 "CableOffice$Route" "y" "[I") (by decide +kernel)
  have hw_f18 := hts (.fieldLink RX1 18 "CableOffice$Route" "points" "I") (by decide +kernel)
  refine lv_aload_n hx hb dX1_takeAllOf_0 rfl (lv_at hl 1 rfl) ?_
  refine g_get (C := RX1) (T := TX1) (N := 3) (v := .ref (xa x (11 + 3 * j + 1))) hx hb hts hinX1 hown hS hP (id := 11 + 3 * j) (by omega) (sh_r x _ (by omega)) rfl 0 (by decide) hw_f9 rfl dX1_takeAllOf_1 ?_
  refine lv_iconst (v := 0) hx hb dX1_takeAllOf_4 (by decide) ?_
  refine lv_aload_n hx hb dX1_takeAllOf_5 rfl (lv_at hl 0 rfl) ?_
  refine g_get (C := RX1) (T := TX1) (N := 3) (v := .ref (xa x (11 + 3 * i + 1))) hx hb hts hinX1 hown hS hP (id := 11 + 3 * i) (by omega) (sh_r x _ (by omega)) rfl 0 (by decide) hw_f9 rfl dX1_takeAllOf_6 ?_
  refine lv_iconst (v := 0) hx hb dX1_takeAllOf_9 (by decide) ?_
  refine lv_bipush (v := 8) hx hb dX1_takeAllOf_10 (by decide) ?_
  refine g_copy hx hb (hml.trans hl.1.symm) hown hw_m22 hw_ncopy hw_scopy hw_iSystem hS hP hV (i0 := 11 + 3 * j + 1) (i1 := 11 + 3 * i + 1) (by omega) (by omega) (fun r => sh_x x r (by omega)) (fun r => sh_x x r (by omega)) (Nat.le_of_ble_eq_true rfl) (Nat.le_of_ble_eq_true rfl) dX1_takeAllOf_12 (fun H locs hP hV => ?_)
  refine lv_aload_n hx hb dX1_takeAllOf_15 rfl (lv_at hl 1 rfl) ?_
  refine g_get (C := RX1) (T := TX1) (N := 3) (v := .ref (xa x (11 + 3 * j + 2))) hx hb hts hinX1 hown hS hP (id := 11 + 3 * j) (by omega) (sh_r x _ (by omega)) rfl 1 (by decide) hw_f15 rfl dX1_takeAllOf_16 ?_
  refine lv_iconst (v := 0) hx hb dX1_takeAllOf_19 (by decide) ?_
  refine lv_aload_n hx hb dX1_takeAllOf_20 rfl (lv_at hl 0 rfl) ?_
  refine g_get (C := RX1) (T := TX1) (N := 3) (v := .ref (xa x (11 + 3 * i + 2))) hx hb hts hinX1 hown hS hP (id := 11 + 3 * i) (by omega) (sh_r x _ (by omega)) rfl 1 (by decide) hw_f15 rfl dX1_takeAllOf_21 ?_
  refine lv_iconst (v := 0) hx hb dX1_takeAllOf_24 (by decide) ?_
  refine lv_bipush (v := 8) hx hb dX1_takeAllOf_25 (by decide) ?_
  refine g_copy hx hb (hml.trans hl.1.symm) hown hw_m22 hw_ncopy hw_scopy hw_iSystem hS hP hV (i0 := 11 + 3 * j + 2) (i1 := 11 + 3 * i + 2) (by omega) (by omega) (fun r => sh_y x r (by omega)) (fun r => sh_y x r (by omega)) (Nat.le_of_ble_eq_true rfl) (Nat.le_of_ble_eq_true rfl) dX1_takeAllOf_27 (fun H locs hP hV => ?_)
  refine lv_aload_n hx hb dX1_takeAllOf_30 rfl (lv_at hl 0 rfl) ?_
  refine lv_aload_n hx hb dX1_takeAllOf_31 rfl (lv_at hl 1 rfl) ?_
  refine g_get (C := RX1) (T := TX1) (N := 3) (v := .int ((cpR (cpR M (11 + 3 * j + 1) (11 + 3 * i + 1)) (11 + 3 * j + 2) (11 + 3 * i + 2)) (11 + 3 * j) 2)) hx hb hts hinX1 hown hS hP (id := 11 + 3 * j) (by omega) (sh_r x _ (by omega)) rfl 2 (by decide) hw_f18 rfl dX1_takeAllOf_32 ?_
  refine g_put (C := RX1) (T := TX1) (N := 3) hx hb hts hinX1 tyX1 tyX1_ok nmX1 hown hS hP hV (id := 11 + 3 * i) (by omega) (sh_r x _ (by omega)) rfl 2 (by decide) hw_f18 rfl (by decide +kernel) (Nat.le_of_ble_eq_true rfl) ((sh_r x _ (by omega)).trans rfl) dX1_takeAllOf_35 (fun H locs hP hV => ?_)
  exact g_vret hx hb hr hlk hS hZ hP hV (Nat.le_of_ble_eq_true rfl) (Nat.le_of_ble_eq_true rfl) dX1_takeAllOf_38 (by rfl)
