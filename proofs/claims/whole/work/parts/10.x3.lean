set_option maxHeartbeats 4000000 in
set_option maxRecDepth 100000 in
theorem c_X3_in (l : Launch) (x : Cx) (M : Nat → Nat → Int32) (v lo hi : Int32) : Met l yX3_in wsX3_in ({ frames := 0, cells := 0, slots := 0, locals := 0 }) (gP x M [.int v, .int lo, .int hi]) (gQ x (some (.int (bI (inI v lo hi)))) M) 0 0 (gF x) := by
  refine g_met (cc := cX3_in) (maxL := 3) (ret := some .boolean) (by decide) rfl (Nat.le_of_ble_eq_true rfl) ?_
  intro p e s m below meth c hx hb hr hml hts hown hlk hS hZ hP hV ls hl
  have hl : lv_has ls 3 [(0, .int v), (1, .int lo), (2, .int hi)] := hl
  refine lv_iload_n hx hb dX3_in_0 rfl (lv_at hl 0 rfl) ?_
  refine lv_iload_n hx hb dX3_in_1 rfl (lv_at hl 1 rfl) ?_
  refine lv_icmp_lt (tgt := 14) hx hb dX3_in_2 (by decide) (fun c_1 => ?_) (fun c_1 => ?_)
  · -- taken
    refine lv_iconst (v := 0) hx hb dX3_in_14 (by decide) ?_
    exact g_zret hx hb hr hlk hS hZ hP hV (Nat.le_of_ble_eq_true rfl) (Nat.le_of_ble_eq_true rfl) dX3_in_15 (by decide) (by simp [inI, bI, c_1]) (by rfl)
  · -- on
    refine lv_iload_n hx hb dX3_in_5 rfl (lv_at hl 0 rfl) ?_
    refine lv_iload_n hx hb dX3_in_6 rfl (lv_at hl 2 rfl) ?_
    refine lv_icmp_gt (tgt := 14) hx hb dX3_in_7 (by decide) (fun c_2 => ?_) (fun c_2 => ?_)
    · -- taken
      refine lv_iconst (v := 0) hx hb dX3_in_14 (by decide) ?_
      exact g_zret hx hb hr hlk hS hZ hP hV (Nat.le_of_ble_eq_true rfl) (Nat.le_of_ble_eq_true rfl) dX3_in_15 (by decide) (by simp [inI, bI, c_1, c_2]) (by rfl)
    · -- on
      refine lv_iconst (v := 1) hx hb dX3_in_10 (by decide) ?_
      refine lv_goto (tgt := 15) hx hb dX3_in_11 (by decide) ?_
      exact g_zret hx hb hr hlk hS hZ hP hV (Nat.le_of_ble_eq_true rfl) (Nat.le_of_ble_eq_true rfl) dX3_in_15 (by decide) (by simp [inI, bI, c_1, c_2]) (by rfl)
set_option maxHeartbeats 4000000 in
set_option maxRecDepth 100000 in
theorem c_X3_isPlace (l : Launch) (x : Cx) (M : Nat → Nat → Int32) (px py : Int32) : Met l yX3_isPlace wsX3_isPlace ({ frames := 1, cells := 0, slots := 0, locals := 22 }) (gP x M [.int px, .int py]) (gQ x (some (.int (bI (plM px py)))) M) 0 0 (gF x) := by
  refine g_met (cc := cX3_isPlace) (maxL := 2) (ret := some .boolean) (by decide) rfl (Nat.le_of_ble_eq_true rfl) ?_
  intro p e s m below meth c hx hb hr hml hts hown hlk hS hZ hP hV ls hl
  have hl : lv_has ls 2 [(0, .int px), (1, .int py)] := hl
  refine lv_iload_n hx hb dX3_isPlace_0 rfl (lv_at hl 0 rfl) ?_
  refine lv_iconst (v := 0) hx hb dX3_isPlace_1 (by decide) ?_
  refine lv_bipush (v := 99) hx hb dX3_isPlace_2 (by decide) ?_
  refine g_call1 (va_runS (As := [.int px, .int 0, .int 99]) (rest := []) ⟨hx, hb, hml, hown, hts⟩ (c_X3_in l x M px 0 99) (va_cwS 3 hts gX3_isPlace_X3_in rfl rfl rfl (by decide +kernel) ⟨Nat.le_of_ble_eq_true rfl, Nat.le_of_ble_eq_true rfl⟩) (g_preS hS hZ hP hV [.int px, .int 0, .int 99]) rfl rfl hl.1 rfl (lv_room (Nat.le_of_ble_eq_true rfl)) dX3_isPlace_4 ⟨Nat.le_of_ble_eq_true rfl, Nat.le_of_ble_eq_true rfl⟩) hV (fun H locs hP hV => ?_)
  refine h_if_eq_b (tgt := 24) hx hb dX3_isPlace_7 (by decide) (fun c_1 => ?_) (fun c_1 => ?_)
  · -- taken
    refine lv_iconst (v := 0) hx hb dX3_isPlace_24 (by decide) ?_
    exact g_zret hx hb hr hlk hS hZ hP hV (Nat.le_of_ble_eq_true rfl) (Nat.le_of_ble_eq_true rfl) dX3_isPlace_25 (by decide) (by simp [plM, bI, c_1]) (by rfl)
  · -- on
    refine lv_iload_n hx hb dX3_isPlace_10 rfl (lv_at hl 1 rfl) ?_
    refine lv_iconst (v := 0) hx hb dX3_isPlace_11 (by decide) ?_
    refine lv_bipush (v := 99) hx hb dX3_isPlace_12 (by decide) ?_
    refine g_call1 (va_runS (As := [.int py, .int 0, .int 99]) (rest := []) ⟨hx, hb, hml, hown, hts⟩ (c_X3_in l x M py 0 99) (va_cwS 3 hts gX3_isPlace_X3_in rfl rfl rfl (by decide +kernel) ⟨Nat.le_of_ble_eq_true rfl, Nat.le_of_ble_eq_true rfl⟩) (g_preS hS hZ hP hV [.int py, .int 0, .int 99]) rfl rfl hl.1 rfl (lv_room (Nat.le_of_ble_eq_true rfl)) dX3_isPlace_14 ⟨Nat.le_of_ble_eq_true rfl, Nat.le_of_ble_eq_true rfl⟩) hV (fun H locs hP hV => ?_)
    refine h_if_eq_b (tgt := 24) hx hb dX3_isPlace_17 (by decide) (fun c_2 => ?_) (fun c_2 => ?_)
    · -- taken
      refine lv_iconst (v := 0) hx hb dX3_isPlace_24 (by decide) ?_
      exact g_zret hx hb hr hlk hS hZ hP hV (Nat.le_of_ble_eq_true rfl) (Nat.le_of_ble_eq_true rfl) dX3_isPlace_25 (by decide) (by simp [plM, bI, c_1, c_2]) (by rfl)
    · -- on
      refine lv_iconst (v := 1) hx hb dX3_isPlace_20 (by decide) ?_
      refine lv_goto (tgt := 25) hx hb dX3_isPlace_21 (by decide) ?_
      exact g_zret hx hb hr hlk hS hZ hP hV (Nat.le_of_ble_eq_true rfl) (Nat.le_of_ble_eq_true rfl) dX3_isPlace_25 (by decide) (by simp [plM, bI, c_1, c_2]) (by rfl)
set_option maxHeartbeats 4000000 in
set_option maxRecDepth 100000 in
theorem c_X3_isMonth (l : Launch) (x : Cx) (M : Nat → Nat → Int32) (mo : Int32) : Met l yX3_isMonth wsX3_isMonth ({ frames := 1, cells := 0, slots := 0, locals := 22 }) (gP x M [.int mo]) (gQ x (some (.int (bI (moM mo)))) M) 0 0 (gF x) := by
  refine g_met (cc := cX3_isMonth) (maxL := 1) (ret := some .boolean) (by decide) rfl (Nat.le_of_ble_eq_true rfl) ?_
  intro p e s m below meth c hx hb hr hml hts hown hlk hS hZ hP hV ls hl
  have hl : lv_has ls 1 [(0, .int mo)] := hl
  refine lv_iload_n hx hb dX3_isMonth_0 rfl (lv_at hl 0 rfl) ?_
  refine lv_iconst (v := 0) hx hb dX3_isMonth_1 (by decide) ?_
  refine lv_bipush (v := 11) hx hb dX3_isMonth_2 (by decide) ?_
  refine g_call1 (va_runS (As := [.int mo, .int 0, .int 11]) (rest := []) ⟨hx, hb, hml, hown, hts⟩ (c_X3_in l x M mo 0 11) (va_cwS 3 hts gX3_isMonth_X3_in rfl rfl rfl (by decide +kernel) ⟨Nat.le_of_ble_eq_true rfl, Nat.le_of_ble_eq_true rfl⟩) (g_preS hS hZ hP hV [.int mo, .int 0, .int 11]) rfl rfl hl.1 rfl (lv_room (Nat.le_of_ble_eq_true rfl)) dX3_isMonth_4 ⟨Nat.le_of_ble_eq_true rfl, Nat.le_of_ble_eq_true rfl⟩) hV (fun H locs hP hV => ?_)
  exact g_zret hx hb hr hlk hS hZ hP hV (Nat.le_of_ble_eq_true rfl) (Nat.le_of_ble_eq_true rfl) dX3_isMonth_7 (bI_nar _) (by rfl) (by rfl)
set_option maxHeartbeats 4000000 in
set_option maxRecDepth 100000 in
theorem c_X3_side (l : Launch) (x : Cx) (M : Nat → Nat → Int32) (px py tx ty ax ay : Int32) : Met l yX3_side wsX3_side ({ frames := 0, cells := 0, slots := 0, locals := 0 }) (gP x M [.int px, .int py, .int tx, .int ty, .int ax, .int ay]) (gQ x (some (.int (sgM px py tx ty ax ay))) M) 0 0 (gF x) := by
  refine g_met (cc := cX3_side) (maxL := 7) (ret := some .int) (by decide) rfl (Nat.le_of_ble_eq_true rfl) ?_
  intro p e s m below meth c hx hb hr hml hts hown hlk hS hZ hP hV ls hl
  have hl : lv_has ls 7 [(0, .int px), (1, .int py), (2, .int tx), (3, .int ty), (4, .int ax), (5, .int ay)] := hl
  refine lv_iload_n hx hb dX3_side_0 rfl (lv_at hl 2 rfl) ?_
  refine lv_iload_n hx hb dX3_side_1 rfl (lv_at hl 0 rfl) ?_
  refine lv_isub hx hb dX3_side_2 ?_
  refine lv_iload hx hb dX3_side_3 (lv_at hl 5 rfl) ?_
  refine lv_iload_n hx hb dX3_side_5 rfl (lv_at hl 1 rfl) ?_
  refine lv_isub hx hb dX3_side_6 ?_
  refine lv_imul hx hb dX3_side_7 ?_
  refine lv_iload_n hx hb dX3_side_8 rfl (lv_at hl 3 rfl) ?_
  refine lv_iload_n hx hb dX3_side_9 rfl (lv_at hl 1 rfl) ?_
  refine lv_isub hx hb dX3_side_10 ?_
  refine lv_iload hx hb dX3_side_11 (lv_at hl 4 rfl) ?_
  refine lv_iload_n hx hb dX3_side_13 rfl (lv_at hl 0 rfl) ?_
  refine lv_isub hx hb dX3_side_14 ?_
  refine lv_imul hx hb dX3_side_15 ?_
  refine lv_isub hx hb dX3_side_16 ?_
  refine lv_istore (lv' := [(6, .int (((tx - px) * (ay - py)) - ((ty - py) * (ax - px)))), (0, .int px), (1, .int py), (2, .int tx), (3, .int ty), (4, .int ax), (5, .int ay)]) hx hb dX3_side_17 hl (by decide) rfl (fun ls hl => ?_)
  refine lv_iload hx hb dX3_side_19 (lv_at hl 0 rfl) ?_
  refine lv_if_le (tgt := 28) hx hb dX3_side_21 (by decide) (fun c_1 => ?_) (fun c_1 => ?_)
  · -- taken
    refine lv_iload hx hb dX3_side_28 (lv_at hl 0 rfl) ?_
    refine lv_if_ge (tgt := 37) hx hb dX3_side_30 (by decide) (fun c_2 => ?_) (fun c_2 => ?_)
    · -- taken
      refine lv_iconst (v := 0) hx hb dX3_side_37 (by decide) ?_
      exact g_iret hx hb hr hlk hS hZ hP hV (Nat.le_of_ble_eq_true rfl) (Nat.le_of_ble_eq_true rfl) dX3_side_38 (by simp [sgM, sgn, bI, c_1, c_2]) (by rfl)
    · -- on
      refine lv_iconst (v := -1) hx hb dX3_side_33 (by decide) ?_
      refine lv_goto (tgt := 38) hx hb dX3_side_34 (by decide) ?_
      exact g_iret hx hb hr hlk hS hZ hP hV (Nat.le_of_ble_eq_true rfl) (Nat.le_of_ble_eq_true rfl) dX3_side_38 (by simp [sgM, sgn, bI, c_1, c_2]) (by rfl)
  · -- on
    refine lv_iconst (v := 1) hx hb dX3_side_24 (by decide) ?_
    refine lv_goto (tgt := 38) hx hb dX3_side_25 (by decide) ?_
    exact g_iret hx hb hr hlk hS hZ hP hV (Nat.le_of_ble_eq_true rfl) (Nat.le_of_ble_eq_true rfl) dX3_side_38 (by simp [sgM, sgn, bI, c_1]) (by rfl)
set_option maxHeartbeats 4000000 in
set_option maxRecDepth 100000 in
theorem c_X3_isBetween (l : Launch) (x : Cx) (M : Nat → Nat → Int32) (px py tx ty ax ay : Int32) : Met l yX3_isBetween wsX3_isBetween ({ frames := 1, cells := 0, slots := 0, locals := 22 }) (gP x M [.int px, .int py, .int tx, .int ty, .int ax, .int ay]) (gQ x (some (.int (bI (btM px py tx ty ax ay)))) M) 0 0 (gF x) := by
  refine g_met (cc := cX3_isBetween) (maxL := 7) (ret := some .boolean) (by decide) rfl (Nat.le_of_ble_eq_true rfl) ?_
  intro p e s m below meth c hx hb hr hml hts hown hlk hS hZ hP hV ls hl
  have hl : lv_has ls 7 [(0, .int px), (1, .int py), (2, .int tx), (3, .int ty), (4, .int ax), (5, .int ay)] := hl
  have J_22 : ∀ v : Int32, v = bI (bxM px tx ax) → ∀ (H : Heap) (locs : List Loc), va_P (xD x) vwCl (wAll x M) H → va_S (gF x) s.heap H locs → ∀ ls : Array Slot, lv_has ls 7 [(0, .int px), (1, .int py), (2, .int tx), (3, .int ty), (4, .int ax), (5, .int ay)] → W p l e ({ frames := 1, cells := 0, slots := 0, locals := 22 }) s m ([.int px, .int py, .int tx, .int ty, .int ax, .int ay] : List Value).toArray below meth c H locs 0 0 (MQ below (gQ x (some (.int (bI (btM px py tx ty ax ay)))) M) ([.int px, .int py, .int tx, .int ty, .int ax, .int ay] : List Value).toArray s 0 0 (gF x)) (F0 m 22 ls (.int v :: [])) := by
    intro v hv H locs hP hV ls hl
    subst hv
    refine lv_istore (lv' := [(6, .int (bI (bxM px tx ax))), (0, .int px), (1, .int py), (2, .int tx), (3, .int ty), (4, .int ax), (5, .int ay)]) hx hb dX3_isBetween_22 hl (by decide) rfl (fun ls hl => ?_)
    refine lv_iload hx hb dX3_isBetween_24 (lv_at hl 0 rfl) ?_
    refine h_if_eq_b (tgt := 61) hx hb dX3_isBetween_26 (by decide) (fun c_1 => ?_) (fun c_1 => ?_)
    · -- taken
      refine lv_iconst (v := 0) hx hb dX3_isBetween_61 (by decide) ?_
      exact g_zret hx hb hr hlk hS hZ hP hV (Nat.le_of_ble_eq_true rfl) (Nat.le_of_ble_eq_true rfl) dX3_isBetween_62 (by decide) (by simp [btM, bI, c_1] <;> simp [bxM, c_1]) (by rfl)
    · -- on
      refine lv_iload_n hx hb dX3_isBetween_29 rfl (lv_at hl 2 rfl) ?_
      refine lv_iload_n hx hb dX3_isBetween_30 rfl (lv_at hl 4 rfl) ?_
      refine lv_icmp_gt (tgt := 47) hx hb dX3_isBetween_31 (by decide) (fun c_2 => ?_) (fun c_2 => ?_)
      · -- taken
        refine lv_iload hx hb dX3_isBetween_47 (lv_at hl 6 rfl) ?_
        refine lv_iload_n hx hb dX3_isBetween_49 rfl (lv_at hl 4 rfl) ?_
        refine lv_iload_n hx hb dX3_isBetween_50 rfl (lv_at hl 2 rfl) ?_
        refine g_call1 (va_runS (As := [.int ay, .int ty, .int py]) (rest := []) ⟨hx, hb, hml, hown, hts⟩ (c_X3_in l x M ay ty py) (va_cwS 3 hts gX3_isBetween_X3_in rfl rfl rfl (by decide +kernel) ⟨Nat.le_of_ble_eq_true rfl, Nat.le_of_ble_eq_true rfl⟩) (g_preS hS hZ hP hV [.int ay, .int ty, .int py]) rfl rfl hl.1 rfl (lv_room (Nat.le_of_ble_eq_true rfl)) dX3_isBetween_51 ⟨Nat.le_of_ble_eq_true rfl, Nat.le_of_ble_eq_true rfl⟩) hV (fun H locs hP hV => ?_)
        refine h_if_eq_b (tgt := 61) hx hb dX3_isBetween_54 (by decide) (fun c_3 => ?_) (fun c_3 => ?_)
        · -- taken
          refine lv_iconst (v := 0) hx hb dX3_isBetween_61 (by decide) ?_
          exact g_zret hx hb hr hlk hS hZ hP hV (Nat.le_of_ble_eq_true rfl) (Nat.le_of_ble_eq_true rfl) dX3_isBetween_62 (by decide) (by simp [btM, bI, c_1, c_2, c_3] <;> simp [bxM, c_1, c_2, c_3]) (by rfl)
        · -- on
          refine lv_iconst (v := 1) hx hb dX3_isBetween_57 (by decide) ?_
          refine lv_goto (tgt := 62) hx hb dX3_isBetween_58 (by decide) ?_
          exact g_zret hx hb hr hlk hS hZ hP hV (Nat.le_of_ble_eq_true rfl) (Nat.le_of_ble_eq_true rfl) dX3_isBetween_62 (by decide) (by simp [btM, bI, c_1, c_2, c_3] <;> simp [bxM, c_1, c_2, c_3]) (by rfl)
      · -- on
        refine lv_iload hx hb dX3_isBetween_34 (lv_at hl 6 rfl) ?_
        refine lv_iload_n hx hb dX3_isBetween_36 rfl (lv_at hl 2 rfl) ?_
        refine lv_iload_n hx hb dX3_isBetween_37 rfl (lv_at hl 4 rfl) ?_
        refine g_call1 (va_runS (As := [.int ay, .int py, .int ty]) (rest := []) ⟨hx, hb, hml, hown, hts⟩ (c_X3_in l x M ay py ty) (va_cwS 3 hts gX3_isBetween_X3_in rfl rfl rfl (by decide +kernel) ⟨Nat.le_of_ble_eq_true rfl, Nat.le_of_ble_eq_true rfl⟩) (g_preS hS hZ hP hV [.int ay, .int py, .int ty]) rfl rfl hl.1 rfl (lv_room (Nat.le_of_ble_eq_true rfl)) dX3_isBetween_38 ⟨Nat.le_of_ble_eq_true rfl, Nat.le_of_ble_eq_true rfl⟩) hV (fun H locs hP hV => ?_)
        refine h_if_eq_b (tgt := 61) hx hb dX3_isBetween_41 (by decide) (fun c_4 => ?_) (fun c_4 => ?_)
        · -- taken
          refine lv_iconst (v := 0) hx hb dX3_isBetween_61 (by decide) ?_
          exact g_zret hx hb hr hlk hS hZ hP hV (Nat.le_of_ble_eq_true rfl) (Nat.le_of_ble_eq_true rfl) dX3_isBetween_62 (by decide) (by simp [btM, bI, c_1, c_2, c_4] <;> simp [bxM, c_1, c_2, c_4]) (by rfl)
        · -- on
          refine lv_goto (tgt := 57) hx hb dX3_isBetween_44 (by decide) ?_
          refine lv_iconst (v := 1) hx hb dX3_isBetween_57 (by decide) ?_
          refine lv_goto (tgt := 62) hx hb dX3_isBetween_58 (by decide) ?_
          exact g_zret hx hb hr hlk hS hZ hP hV (Nat.le_of_ble_eq_true rfl) (Nat.le_of_ble_eq_true rfl) dX3_isBetween_62 (by decide) (by simp [btM, bI, c_1, c_2, c_4] <;> simp [bxM, c_1, c_2, c_4]) (by rfl)
  refine lv_iload_n hx hb dX3_isBetween_0 rfl (lv_at hl 0 rfl) ?_
  refine lv_iload_n hx hb dX3_isBetween_1 rfl (lv_at hl 2 rfl) ?_
  refine lv_icmp_gt (tgt := 15) hx hb dX3_isBetween_2 (by decide) (fun c_5 => ?_) (fun c_5 => ?_)
  · -- taken
    refine lv_iload hx hb dX3_isBetween_15 (lv_at hl 4 rfl) ?_
    refine lv_iload_n hx hb dX3_isBetween_17 rfl (lv_at hl 2 rfl) ?_
    refine lv_iload_n hx hb dX3_isBetween_18 rfl (lv_at hl 0 rfl) ?_
    refine g_call1 (va_runS (As := [.int ax, .int tx, .int px]) (rest := []) ⟨hx, hb, hml, hown, hts⟩ (c_X3_in l x M ax tx px) (va_cwS 3 hts gX3_isBetween_X3_in rfl rfl rfl (by decide +kernel) ⟨Nat.le_of_ble_eq_true rfl, Nat.le_of_ble_eq_true rfl⟩) (g_preS hS hZ hP hV [.int ax, .int tx, .int px]) rfl rfl hl.1 rfl (lv_room (Nat.le_of_ble_eq_true rfl)) dX3_isBetween_19 ⟨Nat.le_of_ble_eq_true rfl, Nat.le_of_ble_eq_true rfl⟩) hV (fun H locs hP hV => ?_)
    exact J_22 _ (by simp [bxM, c_5]) _ _ hP hV ls hl
  · -- on
    refine lv_iload hx hb dX3_isBetween_5 (lv_at hl 4 rfl) ?_
    refine lv_iload_n hx hb dX3_isBetween_7 rfl (lv_at hl 0 rfl) ?_
    refine lv_iload_n hx hb dX3_isBetween_8 rfl (lv_at hl 2 rfl) ?_
    refine g_call1 (va_runS (As := [.int ax, .int px, .int tx]) (rest := []) ⟨hx, hb, hml, hown, hts⟩ (c_X3_in l x M ax px tx) (va_cwS 3 hts gX3_isBetween_X3_in rfl rfl rfl (by decide +kernel) ⟨Nat.le_of_ble_eq_true rfl, Nat.le_of_ble_eq_true rfl⟩) (g_preS hS hZ hP hV [.int ax, .int px, .int tx]) rfl rfl hl.1 rfl (lv_room (Nat.le_of_ble_eq_true rfl)) dX3_isBetween_9 ⟨Nat.le_of_ble_eq_true rfl, Nat.le_of_ble_eq_true rfl⟩) hV (fun H locs hP hV => ?_)
    refine lv_goto (tgt := 22) hx hb dX3_isBetween_12 (by decide) ?_
    exact J_22 _ (by simp [bxM, c_5]) _ _ hP hV ls hl
set_option maxHeartbeats 4000000 in
set_option maxRecDepth 100000 in
theorem c_X3_isCable (l : Launch) (x : Cx) (M : Nat → Nat → Int32) (cn gn dn : Nat) (pn : Nat → Nat) (a : Int32) (hM : OkM M cn gn dn pn) : Met l yX3_isCable wsX3_isCable ({ frames := 1, cells := 0, slots := 0, locals := 22 }) (gP x M [.ref (xa x 38), .int a]) (gQ x (some (.int (bI (cbM cn a)))) M) 0 0 (gF x) := by
  refine g_met (cc := cX3_isCable) (maxL := 2) (ret := some .boolean) (by decide) rfl (Nat.le_of_ble_eq_true rfl) ?_
  intro p e s m below meth c hx hb hr hml hts hown hlk hS hZ hP hV ls hl
  have hl : lv_has ls 2 [(0, .ref (xa x 38)), (1, .int a)] := hl
  have hw_f70 := hts (.fieldLink RX3 70 "CableOfficeModel" "cables" "I") (by decide +kernel)
  have hinX3 : ∀ w ∈ wsX30, w ∈ wsX3_isCable := by decide +kernel
  have hc8 := hM.c8
  have hg5 := hM.g5
  have hd8 := hM.d8
  refine lv_iload_n hx hb dX3_isCable_0 rfl (lv_at hl 1 rfl) ?_
  refine lv_iconst (v := 0) hx hb dX3_isCable_1 (by decide) ?_
  refine lv_aload_n hx hb dX3_isCable_2 rfl (lv_at hl 0 rfl) ?_
  refine g_get (C := RX3) (T := TX3) (N := 22) (v := .int (nI cn)) hx hb hts hinX3 hown hS hP (id := 38) (by decide) rfl rfl 4 (by decide) hw_f70 (congrArg (fun z => some (Value.int z)) hM.c) dX3_isCable_3 ?_
  refine lv_iconst (v := 1) hx hb dX3_isCable_6 (by decide) ?_
  refine lv_isub hx hb dX3_isCable_7 ?_
  refine g_call1 (va_runS (As := [.int a, .int 0, .int (nI cn - 1)]) (rest := []) ⟨hx, hb, hml, hown, hts⟩ (c_X3_in l x M a 0 (nI cn - 1)) (va_cwS 3 hts gX3_isCable_X3_in rfl rfl rfl (by decide +kernel) ⟨Nat.le_of_ble_eq_true rfl, Nat.le_of_ble_eq_true rfl⟩) (g_preS hS hZ hP hV [.int a, .int 0, .int (nI cn - 1)]) rfl rfl hl.1 rfl (lv_room (Nat.le_of_ble_eq_true rfl)) dX3_isCable_8 ⟨Nat.le_of_ble_eq_true rfl, Nat.le_of_ble_eq_true rfl⟩) hV (fun H locs hP hV => ?_)
  exact g_zret hx hb hr hlk hS hZ hP hV (Nat.le_of_ble_eq_true rfl) (Nat.le_of_ble_eq_true rfl) dX3_isCable_11 (bI_nar _) (by rfl) (by rfl)
set_option maxHeartbeats 4000000 in
set_option maxRecDepth 100000 in
theorem c_X3_isGround (l : Launch) (x : Cx) (M : Nat → Nat → Int32) (cn gn dn : Nat) (pn : Nat → Nat) (a : Int32) (hM : OkM M cn gn dn pn) : Met l yX3_isGround wsX3_isGround ({ frames := 1, cells := 0, slots := 0, locals := 22 }) (gP x M [.ref (xa x 38), .int a]) (gQ x (some (.int (bI (cbM gn a)))) M) 0 0 (gF x) := by
  refine g_met (cc := cX3_isGround) (maxL := 2) (ret := some .boolean) (by decide) rfl (Nat.le_of_ble_eq_true rfl) ?_
  intro p e s m below meth c hx hb hr hml hts hown hlk hS hZ hP hV ls hl
  have hl : lv_has ls 2 [(0, .ref (xa x 38)), (1, .int a)] := hl
  have hw_f133 := hts (.fieldLink RX3 133 "CableOfficeModel" "grounds" "I") (by decide +kernel)
  have hinX3 : ∀ w ∈ wsX30, w ∈ wsX3_isGround := by decide +kernel
  have hc8 := hM.c8
  have hg5 := hM.g5
  have hd8 := hM.d8
  refine lv_iload_n hx hb dX3_isGround_0 rfl (lv_at hl 1 rfl) ?_
  refine lv_iconst (v := 0) hx hb dX3_isGround_1 (by decide) ?_
  refine lv_aload_n hx hb dX3_isGround_2 rfl (lv_at hl 0 rfl) ?_
  refine g_get (C := RX3) (T := TX3) (N := 22) (v := .int (nI gn)) hx hb hts hinX3 hown hS hP (id := 38) (by decide) rfl rfl 9 (by decide) hw_f133 (congrArg (fun z => some (Value.int z)) hM.g) dX3_isGround_3 ?_
  refine lv_iconst (v := 1) hx hb dX3_isGround_6 (by decide) ?_
  refine lv_isub hx hb dX3_isGround_7 ?_
  refine g_call1 (va_runS (As := [.int a, .int 0, .int (nI gn - 1)]) (rest := []) ⟨hx, hb, hml, hown, hts⟩ (c_X3_in l x M a 0 (nI gn - 1)) (va_cwS 3 hts gX3_isGround_X3_in rfl rfl rfl (by decide +kernel) ⟨Nat.le_of_ble_eq_true rfl, Nat.le_of_ble_eq_true rfl⟩) (g_preS hS hZ hP hV [.int a, .int 0, .int (nI gn - 1)]) rfl rfl hl.1 rfl (lv_room (Nat.le_of_ble_eq_true rfl)) dX3_isGround_8 ⟨Nat.le_of_ble_eq_true rfl, Nat.le_of_ble_eq_true rfl⟩) hV (fun H locs hP hV => ?_)
  exact g_zret hx hb hr hlk hS hZ hP hV (Nat.le_of_ble_eq_true rfl) (Nat.le_of_ble_eq_true rfl) dX3_isGround_11 (bI_nar _) (by rfl) (by rfl)
set_option maxHeartbeats 4000000 in
set_option maxRecDepth 100000 in
theorem c_X3_areCables (l : Launch) (x : Cx) (M : Nat → Nat → Int32) (cn gn dn : Nat) (pn : Nat → Nat) (a b : Int32) (hM : OkM M cn gn dn pn) : Met l yX3_areCables wsX3_areCables ({ frames := 2, cells := 0, slots := 0, locals := 43 }) (gP x M [.ref (xa x 38), .int a, .int b]) (gQ x (some (.int (bI (c2M cn a b)))) M) 0 0 (gF x) := by
  refine g_met (cc := cX3_areCables) (maxL := 3) (ret := some .boolean) (by decide) rfl (Nat.le_of_ble_eq_true rfl) ?_
  intro p e s m below meth c hx hb hr hml hts hown hlk hS hZ hP hV ls hl
  have hl : lv_has ls 3 [(0, .ref (xa x 38)), (1, .int a), (2, .int b)] := hl
  have hc8 := hM.c8
  have hg5 := hM.g5
  have hd8 := hM.d8
  refine lv_aload_n hx hb dX3_areCables_0 rfl (lv_at hl 0 rfl) ?_
  refine lv_iload_n hx hb dX3_areCables_1 rfl (lv_at hl 1 rfl) ?_
  refine g_call1 (va_runV (As := [.int a]) (rest := []) ⟨hx, hb, hml, hown, hts⟩ (c_X3_isCable l x M cn gn dn pn a hM) (cwV 1 hts gX3_areCables_X3_isCable rfl rfl rfl (by decide +kernel) ⟨Nat.le_of_ble_eq_true rfl, Nat.le_of_ble_eq_true rfl⟩) (g_preV hS hZ hP hV [.int a] (id := 38) (by decide) rfl rfl) rfl rfl hl.1 rfl (lv_room (Nat.le_of_ble_eq_true rfl)) dX3_areCables_2 ⟨Nat.le_of_ble_eq_true rfl, Nat.le_of_ble_eq_true rfl⟩) hV (fun H locs hP hV => ?_)
  refine h_if_eq_b (tgt := 20) hx hb dX3_areCables_5 (by decide) (fun c_1 => ?_) (fun c_1 => ?_)
  · -- taken
    refine lv_iconst (v := 0) hx hb dX3_areCables_20 (by decide) ?_
    exact g_zret hx hb hr hlk hS hZ hP hV (Nat.le_of_ble_eq_true rfl) (Nat.le_of_ble_eq_true rfl) dX3_areCables_21 (by decide) (by simp [c2M, bI, c_1]) (by rfl)
  · -- on
    refine lv_aload_n hx hb dX3_areCables_8 rfl (lv_at hl 0 rfl) ?_
    refine lv_iload_n hx hb dX3_areCables_9 rfl (lv_at hl 2 rfl) ?_
    refine g_call1 (va_runV (As := [.int b]) (rest := []) ⟨hx, hb, hml, hown, hts⟩ (c_X3_isCable l x M cn gn dn pn b hM) (cwV 1 hts gX3_areCables_X3_isCable rfl rfl rfl (by decide +kernel) ⟨Nat.le_of_ble_eq_true rfl, Nat.le_of_ble_eq_true rfl⟩) (g_preV hS hZ hP hV [.int b] (id := 38) (by decide) rfl rfl) rfl rfl hl.1 rfl (lv_room (Nat.le_of_ble_eq_true rfl)) dX3_areCables_10 ⟨Nat.le_of_ble_eq_true rfl, Nat.le_of_ble_eq_true rfl⟩) hV (fun H locs hP hV => ?_)
    refine h_if_eq_b (tgt := 20) hx hb dX3_areCables_13 (by decide) (fun c_2 => ?_) (fun c_2 => ?_)
    · -- taken
      refine lv_iconst (v := 0) hx hb dX3_areCables_20 (by decide) ?_
      exact g_zret hx hb hr hlk hS hZ hP hV (Nat.le_of_ble_eq_true rfl) (Nat.le_of_ble_eq_true rfl) dX3_areCables_21 (by decide) (by simp [c2M, bI, c_1, c_2]) (by rfl)
    · -- on
      refine lv_iconst (v := 1) hx hb dX3_areCables_16 (by decide) ?_
      refine lv_goto (tgt := 21) hx hb dX3_areCables_17 (by decide) ?_
      exact g_zret hx hb hr hlk hS hZ hP hV (Nat.le_of_ble_eq_true rfl) (Nat.le_of_ble_eq_true rfl) dX3_areCables_21 (by decide) (by simp [c2M, bI, c_1, c_2]) (by rfl)
set_option maxHeartbeats 4000000 in
set_option maxRecDepth 100000 in
theorem c_X3_isPoint (l : Launch) (x : Cx) (M : Nat → Nat → Int32) (cn gn dn : Nat) (pn : Nat → Nat) (a q : Int32) (hM : OkM M cn gn dn pn) : Met l yX3_isPoint wsX3_isPoint ({ frames := 2, cells := 0, slots := 0, locals := 43 }) (gP x M [.ref (xa x 38), .int a, .int q]) (gQ x (some (.int (bI (ptM cn pn a q)))) M) 0 0 (gF x) := by
  refine g_met (cc := cX3_isPoint) (maxL := 3) (ret := some .boolean) (by decide) rfl (Nat.le_of_ble_eq_true rfl) ?_
  intro p e s m below meth c hx hb hr hml hts hown hlk hS hZ hP hV ls hl
  have hl : lv_has ls 3 [(0, .ref (xa x 38)), (1, .int a), (2, .int q)] := hl
  have hw_f16 := hts (.fieldLink RX3 16 "CableOfficeModel" "counts" "[I") (by decide +kernel)
  have hinX3 : ∀ w ∈ wsX30, w ∈ wsX3_isPoint := by decide +kernel
  have hc8 := hM.c8
  have hg5 := hM.g5
  have hd8 := hM.d8
  refine lv_aload_n hx hb dX3_isPoint_0 rfl (lv_at hl 0 rfl) ?_
  refine lv_iload_n hx hb dX3_isPoint_1 rfl (lv_at hl 1 rfl) ?_
  refine g_call1 (va_runV (As := [.int a]) (rest := []) ⟨hx, hb, hml, hown, hts⟩ (c_X3_isCable l x M cn gn dn pn a hM) (cwV 1 hts gX3_isPoint_X3_isCable rfl rfl rfl (by decide +kernel) ⟨Nat.le_of_ble_eq_true rfl, Nat.le_of_ble_eq_true rfl⟩) (g_preV hS hZ hP hV [.int a] (id := 38) (by decide) rfl rfl) rfl rfl hl.1 rfl (lv_room (Nat.le_of_ble_eq_true rfl)) dX3_isPoint_2 ⟨Nat.le_of_ble_eq_true rfl, Nat.le_of_ble_eq_true rfl⟩) hV (fun H locs hP hV => ?_)
  refine h_if_eq_b (tgt := 28) hx hb dX3_isPoint_5 (by decide) (fun c_1 => ?_) (fun c_1 => ?_)
  · -- taken
    refine lv_iconst (v := 0) hx hb dX3_isPoint_28 (by decide) ?_
    exact g_zret hx hb hr hlk hS hZ hP hV (Nat.le_of_ble_eq_true rfl) (Nat.le_of_ble_eq_true rfl) dX3_isPoint_29 (by decide) (by simp [ptM, bI, c_1]) (by rfl)
  · -- on
    obtain ⟨j, hj, ea⟩ := cbM_true hM.c8 c_1
    have h7j := hM.p7 hj
    rw [ea] at hl
    refine lv_iload_n hx hb dX3_isPoint_8 rfl (lv_at hl 2 rfl) ?_
    refine lv_iconst (v := 0) hx hb dX3_isPoint_9 (by decide) ?_
    refine lv_aload_n hx hb dX3_isPoint_10 rfl (lv_at hl 0 rfl) ?_
    refine g_get (C := RX3) (T := TX3) (N := 22) (v := .ref (xa x 41)) hx hb hts hinX3 hown hS hP (id := 38) (by decide) rfl rfl 5 (by decide) hw_f16 rfl dX3_isPoint_11 ?_
    refine lv_iload_n hx hb dX3_isPoint_14 rfl (lv_at hl 1 rfl) ?_
    refine g_iald (j := j) hx hb hS hP (id := 41) (by omega) ((fun _ => rfl) _) (by decide) rfl (by omega) dX3_isPoint_15 ?_
    rw [(hM.p (by omega))]
    refine lv_iconst (v := 1) hx hb dX3_isPoint_16 (by decide) ?_
    refine h_isub (v := nI (pn j)) hx hb dX3_isPoint_17 (h_sub (pn j) 1) ?_
    refine g_call1 (va_runS (As := [.int q, .int 0, .int (nI (pn j))]) (rest := []) ⟨hx, hb, hml, hown, hts⟩ (c_X3_in l x M q 0 (nI (pn j))) (va_cwS 3 hts gX3_isPoint_X3_in rfl rfl rfl (by decide +kernel) ⟨Nat.le_of_ble_eq_true rfl, Nat.le_of_ble_eq_true rfl⟩) (g_preS hS hZ hP hV [.int q, .int 0, .int (nI (pn j))]) rfl rfl hl.1 rfl (lv_room (Nat.le_of_ble_eq_true rfl)) dX3_isPoint_18 ⟨Nat.le_of_ble_eq_true rfl, Nat.le_of_ble_eq_true rfl⟩) hV (fun H locs hP hV => ?_)
    refine h_if_eq_b (tgt := 28) hx hb dX3_isPoint_21 (by decide) (fun c_2 => ?_) (fun c_2 => ?_)
    · -- taken
      refine lv_iconst (v := 0) hx hb dX3_isPoint_28 (by decide) ?_
      exact g_zret hx hb hr hlk hS hZ hP hV (Nat.le_of_ble_eq_true rfl) (Nat.le_of_ble_eq_true rfl) dX3_isPoint_29 (by decide) (by subst ea; simp [ptM, bI, c_1, c_2, tn_nI (show j < 2 ^ 31 by omega)]) (by rfl)
    · -- on
      refine lv_iconst (v := 1) hx hb dX3_isPoint_24 (by decide) ?_
      refine lv_goto (tgt := 29) hx hb dX3_isPoint_25 (by decide) ?_
      exact g_zret hx hb hr hlk hS hZ hP hV (Nat.le_of_ble_eq_true rfl) (Nat.le_of_ble_eq_true rfl) dX3_isPoint_29 (by decide) (by subst ea; simp [ptM, bI, c_1, c_2, tn_nI (show j < 2 ^ 31 by omega)]) (by rfl)
set_option maxHeartbeats 4000000 in
set_option maxRecDepth 100000 in
theorem c_X3_isPiece (l : Launch) (x : Cx) (M : Nat → Nat → Int32) (cn gn dn : Nat) (pn : Nat → Nat) (a q : Int32) (hM : OkM M cn gn dn pn) : Met l yX3_isPiece wsX3_isPiece ({ frames := 2, cells := 0, slots := 0, locals := 43 }) (gP x M [.ref (xa x 38), .int a, .int q]) (gQ x (some (.int (bI (pcM cn pn a q)))) M) 0 0 (gF x) := by
  refine g_met (cc := cX3_isPiece) (maxL := 3) (ret := some .boolean) (by decide) rfl (Nat.le_of_ble_eq_true rfl) ?_
  intro p e s m below meth c hx hb hr hml hts hown hlk hS hZ hP hV ls hl
  have hl : lv_has ls 3 [(0, .ref (xa x 38)), (1, .int a), (2, .int q)] := hl
  have hw_f16 := hts (.fieldLink RX3 16 "CableOfficeModel" "counts" "[I") (by decide +kernel)
  have hinX3 : ∀ w ∈ wsX30, w ∈ wsX3_isPiece := by decide +kernel
  have hc8 := hM.c8
  have hg5 := hM.g5
  have hd8 := hM.d8
  refine lv_aload_n hx hb dX3_isPiece_0 rfl (lv_at hl 0 rfl) ?_
  refine lv_iload_n hx hb dX3_isPiece_1 rfl (lv_at hl 1 rfl) ?_
  refine g_call1 (va_runV (As := [.int a]) (rest := []) ⟨hx, hb, hml, hown, hts⟩ (c_X3_isCable l x M cn gn dn pn a hM) (cwV 1 hts gX3_isPiece_X3_isCable rfl rfl rfl (by decide +kernel) ⟨Nat.le_of_ble_eq_true rfl, Nat.le_of_ble_eq_true rfl⟩) (g_preV hS hZ hP hV [.int a] (id := 38) (by decide) rfl rfl) rfl rfl hl.1 rfl (lv_room (Nat.le_of_ble_eq_true rfl)) dX3_isPiece_2 ⟨Nat.le_of_ble_eq_true rfl, Nat.le_of_ble_eq_true rfl⟩) hV (fun H locs hP hV => ?_)
  refine h_if_eq_b (tgt := 28) hx hb dX3_isPiece_5 (by decide) (fun c_1 => ?_) (fun c_1 => ?_)
  · -- taken
    refine lv_iconst (v := 0) hx hb dX3_isPiece_28 (by decide) ?_
    exact g_zret hx hb hr hlk hS hZ hP hV (Nat.le_of_ble_eq_true rfl) (Nat.le_of_ble_eq_true rfl) dX3_isPiece_29 (by decide) (by simp [pcM, bI, c_1]) (by rfl)
  · -- on
    obtain ⟨j, hj, ea⟩ := cbM_true hM.c8 c_1
    have h7j := hM.p7 hj
    rw [ea] at hl
    refine lv_iload_n hx hb dX3_isPiece_8 rfl (lv_at hl 2 rfl) ?_
    refine lv_iconst (v := 0) hx hb dX3_isPiece_9 (by decide) ?_
    refine lv_aload_n hx hb dX3_isPiece_10 rfl (lv_at hl 0 rfl) ?_
    refine g_get (C := RX3) (T := TX3) (N := 22) (v := .ref (xa x 41)) hx hb hts hinX3 hown hS hP (id := 38) (by decide) rfl rfl 5 (by decide) hw_f16 rfl dX3_isPiece_11 ?_
    refine lv_iload_n hx hb dX3_isPiece_14 rfl (lv_at hl 1 rfl) ?_
    refine g_iald (j := j) hx hb hS hP (id := 41) (by omega) ((fun _ => rfl) _) (by decide) rfl (by omega) dX3_isPiece_15 ?_
    rw [(hM.p (by omega))]
    refine lv_iconst (v := 2) hx hb dX3_isPiece_16 (by decide) ?_
    refine h_isub (v := nI (pn j + 1 - 2)) hx hb dX3_isPiece_17 (pk_sub (a := pn j + 1) (b := 2) (by omega)) ?_
    refine g_call1 (va_runS (As := [.int q, .int 0, .int (nI (pn j + 1 - 2))]) (rest := []) ⟨hx, hb, hml, hown, hts⟩ (c_X3_in l x M q 0 (nI (pn j + 1 - 2))) (va_cwS 3 hts gX3_isPiece_X3_in rfl rfl rfl (by decide +kernel) ⟨Nat.le_of_ble_eq_true rfl, Nat.le_of_ble_eq_true rfl⟩) (g_preS hS hZ hP hV [.int q, .int 0, .int (nI (pn j + 1 - 2))]) rfl rfl hl.1 rfl (lv_room (Nat.le_of_ble_eq_true rfl)) dX3_isPiece_18 ⟨Nat.le_of_ble_eq_true rfl, Nat.le_of_ble_eq_true rfl⟩) hV (fun H locs hP hV => ?_)
    refine h_if_eq_b (tgt := 28) hx hb dX3_isPiece_21 (by decide) (fun c_2 => ?_) (fun c_2 => ?_)
    · -- taken
      refine lv_iconst (v := 0) hx hb dX3_isPiece_28 (by decide) ?_
      exact g_zret hx hb hr hlk hS hZ hP hV (Nat.le_of_ble_eq_true rfl) (Nat.le_of_ble_eq_true rfl) dX3_isPiece_29 (by decide) (by rw [show pn j + 1 - 2 = pn j - 1 by omega] at c_2; subst ea; simp [pcM, bI, c_1, c_2, tn_nI (show j < 2 ^ 31 by omega)]) (by rfl)
    · -- on
      refine lv_iconst (v := 1) hx hb dX3_isPiece_24 (by decide) ?_
      refine lv_goto (tgt := 29) hx hb dX3_isPiece_25 (by decide) ?_
      exact g_zret hx hb hr hlk hS hZ hP hV (Nat.le_of_ble_eq_true rfl) (Nat.le_of_ble_eq_true rfl) dX3_isPiece_29 (by decide) (by rw [show pn j + 1 - 2 = pn j - 1 by omega] at c_2; subst ea; simp [pcM, bI, c_1, c_2, tn_nI (show j < 2 ^ 31 by omega)]) (by rfl)
set_option maxHeartbeats 4000000 in
set_option maxRecDepth 100000 in
theorem c_X3_holds (l : Launch) (x : Cx) (M : Nat → Nat → Int32) (k : Int32) : Met l yX3_holds wsX3_holds ({ frames := 0, cells := 0, slots := 0, locals := 0 }) (gP x M [.ref (xa x 38), .int k]) (gQ x (some (.int (bI (decide (k = 0))))) (up2 M 38 0 k)) 0 0 (gF x) := by
  refine g_met (cc := cX3_holds) (maxL := 2) (ret := some .boolean) (by decide) rfl (Nat.le_of_ble_eq_true rfl) ?_
  intro p e s m below meth c hx hb hr hml hts hown hlk hS hZ hP hV ls hl
  have hl : lv_has ls 2 [(0, .ref (xa x 38)), (1, .int k)] := hl
  have hw_f62 := hts (.fieldLink RX3 62 "CableOfficeModel" "thrown" "I") (by decide +kernel)
  have hinX3 : ∀ w ∈ wsX30, w ∈ wsX3_holds := by decide +kernel
  refine lv_aload_n hx hb dX3_holds_0 rfl (lv_at hl 0 rfl) ?_
  refine lv_iload_n hx hb dX3_holds_1 rfl (lv_at hl 1 rfl) ?_
  refine g_put (C := RX3) (T := TX3) (N := 22) hx hb hts hinX3 tyX3 tyX3_ok nmX3 hown hS hP hV (id := 38) (by decide) rfl rfl 0 (by decide) hw_f62 rfl (by decide +kernel) (Nat.le_of_ble_eq_true rfl) rfl dX3_holds_2 (fun H locs hP hV => ?_)
  refine lv_iload_n hx hb dX3_holds_5 rfl (lv_at hl 1 rfl) ?_
  refine lv_if_ne (tgt := 13) hx hb dX3_holds_6 (by decide) (fun c_1 => ?_) (fun c_1 => ?_)
  · -- taken
    refine lv_iconst (v := 0) hx hb dX3_holds_13 (by decide) ?_
    exact g_zret hx hb hr hlk hS hZ hP hV (Nat.le_of_ble_eq_true rfl) (Nat.le_of_ble_eq_true rfl) dX3_holds_14 (by decide) (by simp [bI, c_1]) (by rfl)
  · -- on
    refine lv_iconst (v := 1) hx hb dX3_holds_9 (by decide) ?_
    refine lv_goto (tgt := 14) hx hb dX3_holds_10 (by decide) ?_
    exact g_zret hx hb hr hlk hS hZ hP hV (Nat.le_of_ble_eq_true rfl) (Nat.le_of_ble_eq_true rfl) dX3_holds_14 (by decide) (by simp [bI, c_1]) (by rfl)
set_option maxHeartbeats 4000000 in
set_option maxRecDepth 100000 in
theorem c_X3_thrown (l : Launch) (x : Cx) (M : Nat → Nat → Int32)  : Met l yX3_thrown wsX3_thrown ({ frames := 0, cells := 0, slots := 0, locals := 0 }) (gP x M [.ref (xa x 38)]) (gQ x (some (.int (M 38 0))) M) 0 0 (gF x) := by
  refine g_met (cc := cX3_thrown) (maxL := 1) (ret := some .int) (by decide) rfl (Nat.le_of_ble_eq_true rfl) ?_
  intro p e s m below meth c hx hb hr hml hts hown hlk hS hZ hP hV ls hl
  have hl : lv_has ls 1 [(0, .ref (xa x 38))] := hl
  have hw_f62 := hts (.fieldLink RX3 62 "CableOfficeModel" "thrown" "I") (by decide +kernel)
  have hinX3 : ∀ w ∈ wsX30, w ∈ wsX3_thrown := by decide +kernel
  refine lv_aload_n hx hb dX3_thrown_0 rfl (lv_at hl 0 rfl) ?_
  refine g_get (C := RX3) (T := TX3) (N := 22) (v := .int (M 38 0)) hx hb hts hinX3 hown hS hP (id := 38) (by decide) rfl rfl 0 (by decide) hw_f62 rfl dX3_thrown_1 ?_
  exact g_iret hx hb hr hlk hS hZ hP hV (Nat.le_of_ble_eq_true rfl) (Nat.le_of_ble_eq_true rfl) dX3_thrown_4 (by rfl) (by rfl)
set_option maxHeartbeats 4000000 in
set_option maxRecDepth 100000 in
theorem c_X3_meets (l : Launch) (x : Cx) (M : Nat → Nat → Int32) (q : Nat) (px py tx ty : Int32) (hq : q + 1 < 64) : Met l yX3_meets wsX3_meets ({ frames := 2, cells := 0, slots := 0, locals := 48 }) (gP x M [.ref (xa x 38), .int (nI q), .int px, .int py, .int tx, .int ty]) (gQ x (some (.int (bI (meM (M 42 q) (M 43 q) (M 42 (q + 1)) (M 43 (q + 1)) px py tx ty)))) M) 0 0 (gF x) := by
  refine g_met (cc := cX3_meets) (maxL := 16) (ret := some .boolean) (by decide) rfl (Nat.le_of_ble_eq_true rfl) ?_
  intro p e s m below meth c hx hb hr hml hts hown hlk hS hZ hP hV ls hl
  have hl : lv_has ls 16 [(0, .ref (xa x 38)), (1, .int (nI q)), (2, .int px), (3, .int py), (4, .int tx), (5, .int ty)] := hl
  have hw_f19 := hts (.fieldLink RX3 19 "CableOfficeModel" "xs" "[I") (by decide +kernel)
  have hinX3 : ∀ w ∈ wsX30, w ∈ wsX3_meets := by decide +kernel
  have hw_f22 := hts (.fieldLink RX3 22 "CableOfficeModel" "ys" "[I") (by decide +kernel)
  refine lv_aload_n hx hb dX3_meets_0 rfl (lv_at hl 0 rfl) ?_
  refine g_get (C := RX3) (T := TX3) (N := 22) (v := .ref (xa x 42)) hx hb hts hinX3 hown hS hP (id := 38) (by decide) rfl rfl 6 (by decide) hw_f19 rfl dX3_meets_1 ?_
  refine lv_iload_n hx hb dX3_meets_4 rfl (lv_at hl 1 rfl) ?_
  refine g_iald (j := q) hx hb hS hP (id := 42) (by omega) ((fun _ => rfl) _) (by decide) rfl (by omega) dX3_meets_5 ?_
  refine lv_istore (lv' := [(6, .int (M 42 q)), (0, .ref (xa x 38)), (1, .int (nI q)), (2, .int px), (3, .int py), (4, .int tx), (5, .int ty)]) hx hb dX3_meets_6 hl (by decide) rfl (fun ls hl => ?_)
  refine lv_aload_n hx hb dX3_meets_8 rfl (lv_at hl 1 rfl) ?_
  refine g_get (C := RX3) (T := TX3) (N := 22) (v := .ref (xa x 43)) hx hb hts hinX3 hown hS hP (id := 38) (by decide) rfl rfl 7 (by decide) hw_f22 rfl dX3_meets_9 ?_
  refine lv_iload_n hx hb dX3_meets_12 rfl (lv_at hl 2 rfl) ?_
  refine g_iald (j := q) hx hb hS hP (id := 43) (by omega) ((fun _ => rfl) _) (by decide) rfl (by omega) dX3_meets_13 ?_
  refine lv_istore (lv' := [(7, .int (M 43 q)), (6, .int (M 42 q)), (0, .ref (xa x 38)), (1, .int (nI q)), (2, .int px), (3, .int py), (4, .int tx), (5, .int ty)]) hx hb dX3_meets_14 hl (by decide) rfl (fun ls hl => ?_)
  refine lv_aload_n hx hb dX3_meets_16 rfl (lv_at hl 2 rfl) ?_
  refine g_get (C := RX3) (T := TX3) (N := 22) (v := .ref (xa x 42)) hx hb hts hinX3 hown hS hP (id := 38) (by decide) rfl rfl 6 (by decide) hw_f19 rfl dX3_meets_17 ?_
  refine lv_iload_n hx hb dX3_meets_20 rfl (lv_at hl 3 rfl) ?_
  refine lv_iconst (v := 1) hx hb dX3_meets_21 (by decide) ?_
  refine h_iadd (v := nI (q + 1)) hx hb dX3_meets_22 (nI_add (q) (1)) ?_
  refine g_iald (j := q + 1) hx hb hS hP (id := 42) (by omega) ((fun _ => rfl) _) (by decide) rfl (by omega) dX3_meets_23 ?_
  refine lv_istore (lv' := [(8, .int (M 42 (q + 1))), (7, .int (M 43 q)), (6, .int (M 42 q)), (0, .ref (xa x 38)), (1, .int (nI q)), (2, .int px), (3, .int py), (4, .int tx), (5, .int ty)]) hx hb dX3_meets_24 hl (by decide) rfl (fun ls hl => ?_)
  refine lv_aload_n hx hb dX3_meets_26 rfl (lv_at hl 3 rfl) ?_
  refine g_get (C := RX3) (T := TX3) (N := 22) (v := .ref (xa x 43)) hx hb hts hinX3 hown hS hP (id := 38) (by decide) rfl rfl 7 (by decide) hw_f22 rfl dX3_meets_27 ?_
  refine lv_iload_n hx hb dX3_meets_30 rfl (lv_at hl 4 rfl) ?_
  refine lv_iconst (v := 1) hx hb dX3_meets_31 (by decide) ?_
  refine h_iadd (v := nI (q + 1)) hx hb dX3_meets_32 (nI_add (q) (1)) ?_
  refine g_iald (j := q + 1) hx hb hS hP (id := 43) (by omega) ((fun _ => rfl) _) (by decide) rfl (by omega) dX3_meets_33 ?_
  refine lv_istore (lv' := [(9, .int (M 43 (q + 1))), (8, .int (M 42 (q + 1))), (7, .int (M 43 q)), (6, .int (M 42 q)), (0, .ref (xa x 38)), (1, .int (nI q)), (2, .int px), (3, .int py), (4, .int tx), (5, .int ty)]) hx hb dX3_meets_34 hl (by decide) rfl (fun ls hl => ?_)
  refine lv_iload hx hb dX3_meets_36 (lv_at hl 3 rfl) ?_
  refine lv_iload hx hb dX3_meets_38 (lv_at hl 2 rfl) ?_
  refine lv_iload hx hb dX3_meets_40 (lv_at hl 1 rfl) ?_
  refine lv_iload hx hb dX3_meets_42 (lv_at hl 0 rfl) ?_
  refine lv_iload_n hx hb dX3_meets_44 rfl (lv_at hl 6 rfl) ?_
  refine lv_iload_n hx hb dX3_meets_45 rfl (lv_at hl 7 rfl) ?_
  refine g_call1 (va_runS (As := [.int (M 42 q), .int (M 43 q), .int (M 42 (q + 1)), .int (M 43 (q + 1)), .int px, .int py]) (rest := []) ⟨hx, hb, hml, hown, hts⟩ (c_X3_side l x M (M 42 q) (M 43 q) (M 42 (q + 1)) (M 43 (q + 1)) px py) (va_cwS 6 hts gX3_meets_X3_side rfl rfl rfl (by decide +kernel) ⟨Nat.le_of_ble_eq_true rfl, Nat.le_of_ble_eq_true rfl⟩) (g_preS hS hZ hP hV [.int (M 42 q), .int (M 43 q), .int (M 42 (q + 1)), .int (M 43 (q + 1)), .int px, .int py]) rfl rfl hl.1 rfl (lv_room (Nat.le_of_ble_eq_true rfl)) dX3_meets_46 ⟨Nat.le_of_ble_eq_true rfl, Nat.le_of_ble_eq_true rfl⟩) hV (fun H locs hP hV => ?_)
  refine lv_istore (lv' := [(10, .int (sgM (M 42 q) (M 43 q) (M 42 (q + 1)) (M 43 (q + 1)) px py)), (9, .int (M 43 (q + 1))), (8, .int (M 42 (q + 1))), (7, .int (M 43 q)), (6, .int (M 42 q)), (0, .ref (xa x 38)), (1, .int (nI q)), (2, .int px), (3, .int py), (4, .int tx), (5, .int ty)]) hx hb dX3_meets_49 hl (by decide) rfl (fun ls hl => ?_)
  refine lv_iload hx hb dX3_meets_51 (lv_at hl 4 rfl) ?_
  refine lv_iload hx hb dX3_meets_53 (lv_at hl 3 rfl) ?_
  refine lv_iload hx hb dX3_meets_55 (lv_at hl 2 rfl) ?_
  refine lv_iload hx hb dX3_meets_57 (lv_at hl 1 rfl) ?_
  refine lv_iload hx hb dX3_meets_59 (lv_at hl 9 rfl) ?_
  refine lv_iload hx hb dX3_meets_61 (lv_at hl 10 rfl) ?_
  refine g_call1 (va_runS (As := [.int (M 42 q), .int (M 43 q), .int (M 42 (q + 1)), .int (M 43 (q + 1)), .int tx, .int ty]) (rest := []) ⟨hx, hb, hml, hown, hts⟩ (c_X3_side l x M (M 42 q) (M 43 q) (M 42 (q + 1)) (M 43 (q + 1)) tx ty) (va_cwS 6 hts gX3_meets_X3_side rfl rfl rfl (by decide +kernel) ⟨Nat.le_of_ble_eq_true rfl, Nat.le_of_ble_eq_true rfl⟩) (g_preS hS hZ hP hV [.int (M 42 q), .int (M 43 q), .int (M 42 (q + 1)), .int (M 43 (q + 1)), .int tx, .int ty]) rfl rfl hl.1 rfl (lv_room (Nat.le_of_ble_eq_true rfl)) dX3_meets_63 ⟨Nat.le_of_ble_eq_true rfl, Nat.le_of_ble_eq_true rfl⟩) hV (fun H locs hP hV => ?_)
  refine lv_istore (lv' := [(11, .int (sgM (M 42 q) (M 43 q) (M 42 (q + 1)) (M 43 (q + 1)) tx ty)), (10, .int (sgM (M 42 q) (M 43 q) (M 42 (q + 1)) (M 43 (q + 1)) px py)), (9, .int (M 43 (q + 1))), (8, .int (M 42 (q + 1))), (7, .int (M 43 q)), (6, .int (M 42 q)), (0, .ref (xa x 38)), (1, .int (nI q)), (2, .int px), (3, .int py), (4, .int tx), (5, .int ty)]) hx hb dX3_meets_66 hl (by decide) rfl (fun ls hl => ?_)
  refine lv_iload_n hx hb dX3_meets_68 rfl (lv_at hl 8 rfl) ?_
  refine lv_iload_n hx hb dX3_meets_69 rfl (lv_at hl 9 rfl) ?_
  refine lv_iload hx hb dX3_meets_70 (lv_at hl 10 rfl) ?_
  refine lv_iload hx hb dX3_meets_72 (lv_at hl 11 rfl) ?_
  refine lv_iload hx hb dX3_meets_74 (lv_at hl 5 rfl) ?_
  refine lv_iload hx hb dX3_meets_76 (lv_at hl 4 rfl) ?_
  refine g_call1 (va_runS (As := [.int px, .int py, .int tx, .int ty, .int (M 42 q), .int (M 43 q)]) (rest := []) ⟨hx, hb, hml, hown, hts⟩ (c_X3_side l x M px py tx ty (M 42 q) (M 43 q)) (va_cwS 6 hts gX3_meets_X3_side rfl rfl rfl (by decide +kernel) ⟨Nat.le_of_ble_eq_true rfl, Nat.le_of_ble_eq_true rfl⟩) (g_preS hS hZ hP hV [.int px, .int py, .int tx, .int ty, .int (M 42 q), .int (M 43 q)]) rfl rfl hl.1 rfl (lv_room (Nat.le_of_ble_eq_true rfl)) dX3_meets_78 ⟨Nat.le_of_ble_eq_true rfl, Nat.le_of_ble_eq_true rfl⟩) hV (fun H locs hP hV => ?_)
  refine lv_istore (lv' := [(12, .int (sgM px py tx ty (M 42 q) (M 43 q))), (11, .int (sgM (M 42 q) (M 43 q) (M 42 (q + 1)) (M 43 (q + 1)) tx ty)), (10, .int (sgM (M 42 q) (M 43 q) (M 42 (q + 1)) (M 43 (q + 1)) px py)), (9, .int (M 43 (q + 1))), (8, .int (M 42 (q + 1))), (7, .int (M 43 q)), (6, .int (M 42 q)), (0, .ref (xa x 38)), (1, .int (nI q)), (2, .int px), (3, .int py), (4, .int tx), (5, .int ty)]) hx hb dX3_meets_81 hl (by decide) rfl (fun ls hl => ?_)
  refine lv_iload_n hx hb dX3_meets_83 rfl (lv_at hl 9 rfl) ?_
  refine lv_iload_n hx hb dX3_meets_84 rfl (lv_at hl 10 rfl) ?_
  refine lv_iload hx hb dX3_meets_85 (lv_at hl 11 rfl) ?_
  refine lv_iload hx hb dX3_meets_87 (lv_at hl 12 rfl) ?_
  refine lv_iload hx hb dX3_meets_89 (lv_at hl 4 rfl) ?_
  refine lv_iload hx hb dX3_meets_91 (lv_at hl 3 rfl) ?_
  refine g_call1 (va_runS (As := [.int px, .int py, .int tx, .int ty, .int (M 42 (q + 1)), .int (M 43 (q + 1))]) (rest := []) ⟨hx, hb, hml, hown, hts⟩ (c_X3_side l x M px py tx ty (M 42 (q + 1)) (M 43 (q + 1))) (va_cwS 6 hts gX3_meets_X3_side rfl rfl rfl (by decide +kernel) ⟨Nat.le_of_ble_eq_true rfl, Nat.le_of_ble_eq_true rfl⟩) (g_preS hS hZ hP hV [.int px, .int py, .int tx, .int ty, .int (M 42 (q + 1)), .int (M 43 (q + 1))]) rfl rfl hl.1 rfl (lv_room (Nat.le_of_ble_eq_true rfl)) dX3_meets_93 ⟨Nat.le_of_ble_eq_true rfl, Nat.le_of_ble_eq_true rfl⟩) hV (fun H locs hP hV => ?_)
  refine lv_istore (lv' := [(13, .int (sgM px py tx ty (M 42 (q + 1)) (M 43 (q + 1)))), (12, .int (sgM px py tx ty (M 42 q) (M 43 q))), (11, .int (sgM (M 42 q) (M 43 q) (M 42 (q + 1)) (M 43 (q + 1)) tx ty)), (10, .int (sgM (M 42 q) (M 43 q) (M 42 (q + 1)) (M 43 (q + 1)) px py)), (9, .int (M 43 (q + 1))), (8, .int (M 42 (q + 1))), (7, .int (M 43 q)), (6, .int (M 42 q)), (0, .ref (xa x 38)), (1, .int (nI q)), (2, .int px), (3, .int py), (4, .int tx), (5, .int ty)]) hx hb dX3_meets_96 hl (by decide) rfl (fun ls hl => ?_)
  have J_147 : ∀ v : Int32, v = bI (on1M (M 42 q) (M 43 q) (M 42 (q + 1)) (M 43 (q + 1)) px py tx ty) → ∀ (H : Heap) (locs : List Loc), va_P (xD x) vwCl (wAll x M) H → va_S (gF x) s.heap H locs → ∀ ls : Array Slot, lv_has ls 16 [(13, .int (sgM px py tx ty (M 42 (q + 1)) (M 43 (q + 1)))), (12, .int (sgM px py tx ty (M 42 q) (M 43 q))), (11, .int (sgM (M 42 q) (M 43 q) (M 42 (q + 1)) (M 43 (q + 1)) tx ty)), (10, .int (sgM (M 42 q) (M 43 q) (M 42 (q + 1)) (M 43 (q + 1)) px py)), (9, .int (M 43 (q + 1))), (8, .int (M 42 (q + 1))), (7, .int (M 43 q)), (6, .int (M 42 q)), (0, .ref (xa x 38)), (1, .int (nI q)), (2, .int px), (3, .int py), (4, .int tx), (5, .int ty)] → W p l e ({ frames := 2, cells := 0, slots := 0, locals := 48 }) s m ([.ref (xa x 38), .int (nI q), .int px, .int py, .int tx, .int ty] : List Value).toArray below meth c H locs 0 0 (MQ below (gQ x (some (.int (bI (meM (M 42 q) (M 43 q) (M 42 (q + 1)) (M 43 (q + 1)) px py tx ty)))) M) ([.ref (xa x 38), .int (nI q), .int px, .int py, .int tx, .int ty] : List Value).toArray s 0 0 (gF x)) (F0 m 147 ls (.int v :: [])) := by
    intro v hv H locs hP hV ls hl
    subst hv
    refine lv_istore (lv' := [(14, .int (bI (on1M (M 42 q) (M 43 q) (M 42 (q + 1)) (M 43 (q + 1)) px py tx ty))), (13, .int (sgM px py tx ty (M 42 (q + 1)) (M 43 (q + 1)))), (12, .int (sgM px py tx ty (M 42 q) (M 43 q))), (11, .int (sgM (M 42 q) (M 43 q) (M 42 (q + 1)) (M 43 (q + 1)) tx ty)), (10, .int (sgM (M 42 q) (M 43 q) (M 42 (q + 1)) (M 43 (q + 1)) px py)), (9, .int (M 43 (q + 1))), (8, .int (M 42 (q + 1))), (7, .int (M 43 q)), (6, .int (M 42 q)), (0, .ref (xa x 38)), (1, .int (nI q)), (2, .int px), (3, .int py), (4, .int tx), (5, .int ty)]) hx hb dX3_meets_147 hl (by decide) rfl (fun ls hl => ?_)
    have J_196 : ∀ v : Int32, v = bI (on1M px py tx ty (M 42 q) (M 43 q) (M 42 (q + 1)) (M 43 (q + 1))) → ∀ (H : Heap) (locs : List Loc), va_P (xD x) vwCl (wAll x M) H → va_S (gF x) s.heap H locs → ∀ ls : Array Slot, lv_has ls 16 [(14, .int (bI (on1M (M 42 q) (M 43 q) (M 42 (q + 1)) (M 43 (q + 1)) px py tx ty))), (13, .int (sgM px py tx ty (M 42 (q + 1)) (M 43 (q + 1)))), (12, .int (sgM px py tx ty (M 42 q) (M 43 q))), (11, .int (sgM (M 42 q) (M 43 q) (M 42 (q + 1)) (M 43 (q + 1)) tx ty)), (10, .int (sgM (M 42 q) (M 43 q) (M 42 (q + 1)) (M 43 (q + 1)) px py)), (9, .int (M 43 (q + 1))), (8, .int (M 42 (q + 1))), (7, .int (M 43 q)), (6, .int (M 42 q)), (0, .ref (xa x 38)), (1, .int (nI q)), (2, .int px), (3, .int py), (4, .int tx), (5, .int ty)] → W p l e ({ frames := 2, cells := 0, slots := 0, locals := 48 }) s m ([.ref (xa x 38), .int (nI q), .int px, .int py, .int tx, .int ty] : List Value).toArray below meth c H locs 0 0 (MQ below (gQ x (some (.int (bI (meM (M 42 q) (M 43 q) (M 42 (q + 1)) (M 43 (q + 1)) px py tx ty)))) M) ([.ref (xa x 38), .int (nI q), .int px, .int py, .int tx, .int ty] : List Value).toArray s 0 0 (gF x)) (F0 m 196 ls (.int v :: [])) := by
      intro v hv H locs hP hV ls hl
      subst hv
      refine lv_istore (lv' := [(15, .int (bI (on1M px py tx ty (M 42 q) (M 43 q) (M 42 (q + 1)) (M 43 (q + 1))))), (14, .int (bI (on1M (M 42 q) (M 43 q) (M 42 (q + 1)) (M 43 (q + 1)) px py tx ty))), (13, .int (sgM px py tx ty (M 42 (q + 1)) (M 43 (q + 1)))), (12, .int (sgM px py tx ty (M 42 q) (M 43 q))), (11, .int (sgM (M 42 q) (M 43 q) (M 42 (q + 1)) (M 43 (q + 1)) tx ty)), (10, .int (sgM (M 42 q) (M 43 q) (M 42 (q + 1)) (M 43 (q + 1)) px py)), (9, .int (M 43 (q + 1))), (8, .int (M 42 (q + 1))), (7, .int (M 43 q)), (6, .int (M 42 q)), (0, .ref (xa x 38)), (1, .int (nI q)), (2, .int px), (3, .int py), (4, .int tx), (5, .int ty)]) hx hb dX3_meets_196 hl (by decide) rfl (fun ls hl => ?_)
      refine lv_iload hx hb dX3_meets_198 (lv_at hl 1 rfl) ?_
      refine h_if_ne_b (tgt := 224) hx hb dX3_meets_200 (by decide) (fun c_1 => ?_) (fun c_1 => ?_)
      · -- taken
        refine lv_iconst (v := 1) hx hb dX3_meets_224 (by decide) ?_
        refine lv_goto (tgt := 229) hx hb dX3_meets_225 (by decide) ?_
        exact g_zret hx hb hr hlk hS hZ hP hV (Nat.le_of_ble_eq_true rfl) (Nat.le_of_ble_eq_true rfl) dX3_meets_229 (by decide) (by simp [meM, bI, c_1]) (by rfl)
      · -- on
        refine lv_iload hx hb dX3_meets_203 (lv_at hl 0 rfl) ?_
        refine h_if_ne_b (tgt := 224) hx hb dX3_meets_205 (by decide) (fun c_2 => ?_) (fun c_2 => ?_)
        · -- taken
          refine lv_iconst (v := 1) hx hb dX3_meets_224 (by decide) ?_
          refine lv_goto (tgt := 229) hx hb dX3_meets_225 (by decide) ?_
          exact g_zret hx hb hr hlk hS hZ hP hV (Nat.le_of_ble_eq_true rfl) (Nat.le_of_ble_eq_true rfl) dX3_meets_229 (by decide) (by simp [meM, bI, c_1, c_2]) (by rfl)
        · -- on
          refine lv_iload hx hb dX3_meets_208 (lv_at hl 5 rfl) ?_
          refine lv_iload hx hb dX3_meets_210 (lv_at hl 4 rfl) ?_
          refine lv_imul hx hb dX3_meets_212 ?_
          refine lv_if_ge (tgt := 228) hx hb dX3_meets_213 (by decide) (fun c_3 => ?_) (fun c_3 => ?_)
          · -- taken
            refine lv_iconst (v := 0) hx hb dX3_meets_228 (by decide) ?_
            exact g_zret hx hb hr hlk hS hZ hP hV (Nat.le_of_ble_eq_true rfl) (Nat.le_of_ble_eq_true rfl) dX3_meets_229 (by decide) (by simp [meM, bI, c_1, c_2, c_3]) (by rfl)
          · -- on
            refine lv_iload hx hb dX3_meets_216 (lv_at hl 3 rfl) ?_
            refine lv_iload hx hb dX3_meets_218 (lv_at hl 2 rfl) ?_
            refine lv_imul hx hb dX3_meets_220 ?_
            refine lv_if_ge (tgt := 228) hx hb dX3_meets_221 (by decide) (fun c_4 => ?_) (fun c_4 => ?_)
            · -- taken
              refine lv_iconst (v := 0) hx hb dX3_meets_228 (by decide) ?_
              exact g_zret hx hb hr hlk hS hZ hP hV (Nat.le_of_ble_eq_true rfl) (Nat.le_of_ble_eq_true rfl) dX3_meets_229 (by decide) (by simp [meM, bI, c_1, c_2, c_3, c_4]) (by rfl)
            · -- on
              refine lv_iconst (v := 1) hx hb dX3_meets_224 (by decide) ?_
              refine lv_goto (tgt := 229) hx hb dX3_meets_225 (by decide) ?_
              exact g_zret hx hb hr hlk hS hZ hP hV (Nat.le_of_ble_eq_true rfl) (Nat.le_of_ble_eq_true rfl) dX3_meets_229 (by decide) (by simp [meM, bI, c_1, c_2, c_3, c_4]) (by rfl)
    refine lv_iload hx hb dX3_meets_149 (lv_at hl 2 rfl) ?_
    refine lv_if_ne (tgt := 170) hx hb dX3_meets_151 (by decide) (fun c_5 => ?_) (fun c_5 => ?_)
    · -- taken
      refine lv_iload hx hb dX3_meets_170 (lv_at hl 1 rfl) ?_
      refine lv_if_ne (tgt := 195) hx hb dX3_meets_172 (by decide) (fun c_6 => ?_) (fun c_6 => ?_)
      · -- taken
        refine lv_iconst (v := 0) hx hb dX3_meets_195 (by decide) ?_
        exact J_196 _ (by simp [on1M, bI, c_5, c_6]) _ _ hP hV ls hl
      · -- on
        refine lv_iload_n hx hb dX3_meets_175 rfl (lv_at hl 11 rfl) ?_
        refine lv_iload_n hx hb dX3_meets_176 rfl (lv_at hl 12 rfl) ?_
        refine lv_iload hx hb dX3_meets_177 (lv_at hl 13 rfl) ?_
        refine lv_iload hx hb dX3_meets_179 (lv_at hl 14 rfl) ?_
        refine lv_iload hx hb dX3_meets_181 (lv_at hl 6 rfl) ?_
        refine lv_iload hx hb dX3_meets_183 (lv_at hl 5 rfl) ?_
        refine g_call1 (va_runS (As := [.int px, .int py, .int tx, .int ty, .int (M 42 (q + 1)), .int (M 43 (q + 1))]) (rest := []) ⟨hx, hb, hml, hown, hts⟩ (c_X3_isBetween l x M px py tx ty (M 42 (q + 1)) (M 43 (q + 1))) (va_cwS 6 hts gX3_meets_X3_isBetween rfl rfl rfl (by decide +kernel) ⟨Nat.le_of_ble_eq_true rfl, Nat.le_of_ble_eq_true rfl⟩) (g_preS hS hZ hP hV [.int px, .int py, .int tx, .int ty, .int (M 42 (q + 1)), .int (M 43 (q + 1))]) rfl rfl hl.1 rfl (lv_room (Nat.le_of_ble_eq_true rfl)) dX3_meets_185 ⟨Nat.le_of_ble_eq_true rfl, Nat.le_of_ble_eq_true rfl⟩) hV (fun H locs hP hV => ?_)
        refine h_if_eq_b (tgt := 195) hx hb dX3_meets_188 (by decide) (fun c_7 => ?_) (fun c_7 => ?_)
        · -- taken
          refine lv_iconst (v := 0) hx hb dX3_meets_195 (by decide) ?_
          exact J_196 _ (by simp [on1M, bI, c_5, c_6, c_7]) _ _ hP hV ls hl
        · -- on
          refine lv_iconst (v := 1) hx hb dX3_meets_191 (by decide) ?_
          refine lv_goto (tgt := 196) hx hb dX3_meets_192 (by decide) ?_
          exact J_196 _ (by simp [on1M, bI, c_5, c_6, c_7]) _ _ hP hV ls hl
    · -- on
      refine lv_iload_n hx hb dX3_meets_154 rfl (lv_at hl 11 rfl) ?_
      refine lv_iload_n hx hb dX3_meets_155 rfl (lv_at hl 12 rfl) ?_
      refine lv_iload hx hb dX3_meets_156 (lv_at hl 13 rfl) ?_
      refine lv_iload hx hb dX3_meets_158 (lv_at hl 14 rfl) ?_
      refine lv_iload hx hb dX3_meets_160 (lv_at hl 8 rfl) ?_
      refine lv_iload hx hb dX3_meets_162 (lv_at hl 7 rfl) ?_
      refine g_call1 (va_runS (As := [.int px, .int py, .int tx, .int ty, .int (M 42 q), .int (M 43 q)]) (rest := []) ⟨hx, hb, hml, hown, hts⟩ (c_X3_isBetween l x M px py tx ty (M 42 q) (M 43 q)) (va_cwS 6 hts gX3_meets_X3_isBetween rfl rfl rfl (by decide +kernel) ⟨Nat.le_of_ble_eq_true rfl, Nat.le_of_ble_eq_true rfl⟩) (g_preS hS hZ hP hV [.int px, .int py, .int tx, .int ty, .int (M 42 q), .int (M 43 q)]) rfl rfl hl.1 rfl (lv_room (Nat.le_of_ble_eq_true rfl)) dX3_meets_164 ⟨Nat.le_of_ble_eq_true rfl, Nat.le_of_ble_eq_true rfl⟩) hV (fun H locs hP hV => ?_)
      refine h_if_ne_b (tgt := 191) hx hb dX3_meets_167 (by decide) (fun c_8 => ?_) (fun c_8 => ?_)
      · -- taken
        refine lv_iconst (v := 1) hx hb dX3_meets_191 (by decide) ?_
        refine lv_goto (tgt := 196) hx hb dX3_meets_192 (by decide) ?_
        exact J_196 _ (by simp [on1M, bI, c_5, c_8]) _ _ hP hV ls hl
      · -- on
        refine lv_iload hx hb dX3_meets_170 (lv_at hl 1 rfl) ?_
        refine lv_if_ne (tgt := 195) hx hb dX3_meets_172 (by decide) (fun c_9 => ?_) (fun c_9 => ?_)
        · -- taken
          refine lv_iconst (v := 0) hx hb dX3_meets_195 (by decide) ?_
          exact J_196 _ (by simp [on1M, bI, c_5, c_8, c_9]) _ _ hP hV ls hl
        · -- on
          refine lv_iload_n hx hb dX3_meets_175 rfl (lv_at hl 11 rfl) ?_
          refine lv_iload_n hx hb dX3_meets_176 rfl (lv_at hl 12 rfl) ?_
          refine lv_iload hx hb dX3_meets_177 (lv_at hl 13 rfl) ?_
          refine lv_iload hx hb dX3_meets_179 (lv_at hl 14 rfl) ?_
          refine lv_iload hx hb dX3_meets_181 (lv_at hl 6 rfl) ?_
          refine lv_iload hx hb dX3_meets_183 (lv_at hl 5 rfl) ?_
          refine g_call1 (va_runS (As := [.int px, .int py, .int tx, .int ty, .int (M 42 (q + 1)), .int (M 43 (q + 1))]) (rest := []) ⟨hx, hb, hml, hown, hts⟩ (c_X3_isBetween l x M px py tx ty (M 42 (q + 1)) (M 43 (q + 1))) (va_cwS 6 hts gX3_meets_X3_isBetween rfl rfl rfl (by decide +kernel) ⟨Nat.le_of_ble_eq_true rfl, Nat.le_of_ble_eq_true rfl⟩) (g_preS hS hZ hP hV [.int px, .int py, .int tx, .int ty, .int (M 42 (q + 1)), .int (M 43 (q + 1))]) rfl rfl hl.1 rfl (lv_room (Nat.le_of_ble_eq_true rfl)) dX3_meets_185 ⟨Nat.le_of_ble_eq_true rfl, Nat.le_of_ble_eq_true rfl⟩) hV (fun H locs hP hV => ?_)
          refine h_if_eq_b (tgt := 195) hx hb dX3_meets_188 (by decide) (fun c_10 => ?_) (fun c_10 => ?_)
          · -- taken
            refine lv_iconst (v := 0) hx hb dX3_meets_195 (by decide) ?_
            exact J_196 _ (by simp [on1M, bI, c_5, c_8, c_9, c_10]) _ _ hP hV ls hl
          · -- on
            refine lv_iconst (v := 1) hx hb dX3_meets_191 (by decide) ?_
            refine lv_goto (tgt := 196) hx hb dX3_meets_192 (by decide) ?_
            exact J_196 _ (by simp [on1M, bI, c_5, c_8, c_9, c_10]) _ _ hP hV ls hl
  refine lv_iload hx hb dX3_meets_98 (lv_at hl 3 rfl) ?_
  refine lv_if_ne (tgt := 119) hx hb dX3_meets_100 (by decide) (fun c_11 => ?_) (fun c_11 => ?_)
  · -- taken
    refine lv_iload hx hb dX3_meets_119 (lv_at hl 2 rfl) ?_
    refine lv_if_ne (tgt := 146) hx hb dX3_meets_121 (by decide) (fun c_12 => ?_) (fun c_12 => ?_)
    · -- taken
      refine lv_iconst (v := 0) hx hb dX3_meets_146 (by decide) ?_
      exact J_147 _ (by simp [on1M, bI, c_11, c_12]) _ _ hP hV ls hl
    · -- on
      refine lv_iload hx hb dX3_meets_124 (lv_at hl 7 rfl) ?_
      refine lv_iload hx hb dX3_meets_126 (lv_at hl 6 rfl) ?_
      refine lv_iload hx hb dX3_meets_128 (lv_at hl 5 rfl) ?_
      refine lv_iload hx hb dX3_meets_130 (lv_at hl 4 rfl) ?_
      refine lv_iload hx hb dX3_meets_132 (lv_at hl 12 rfl) ?_
      refine lv_iload hx hb dX3_meets_134 (lv_at hl 13 rfl) ?_
      refine g_call1 (va_runS (As := [.int (M 42 q), .int (M 43 q), .int (M 42 (q + 1)), .int (M 43 (q + 1)), .int tx, .int ty]) (rest := []) ⟨hx, hb, hml, hown, hts⟩ (c_X3_isBetween l x M (M 42 q) (M 43 q) (M 42 (q + 1)) (M 43 (q + 1)) tx ty) (va_cwS 6 hts gX3_meets_X3_isBetween rfl rfl rfl (by decide +kernel) ⟨Nat.le_of_ble_eq_true rfl, Nat.le_of_ble_eq_true rfl⟩) (g_preS hS hZ hP hV [.int (M 42 q), .int (M 43 q), .int (M 42 (q + 1)), .int (M 43 (q + 1)), .int tx, .int ty]) rfl rfl hl.1 rfl (lv_room (Nat.le_of_ble_eq_true rfl)) dX3_meets_136 ⟨Nat.le_of_ble_eq_true rfl, Nat.le_of_ble_eq_true rfl⟩) hV (fun H locs hP hV => ?_)
      refine h_if_eq_b (tgt := 146) hx hb dX3_meets_139 (by decide) (fun c_13 => ?_) (fun c_13 => ?_)
      · -- taken
        refine lv_iconst (v := 0) hx hb dX3_meets_146 (by decide) ?_
        exact J_147 _ (by simp [on1M, bI, c_11, c_12, c_13]) _ _ hP hV ls hl
      · -- on
        refine lv_iconst (v := 1) hx hb dX3_meets_142 (by decide) ?_
        refine lv_goto (tgt := 147) hx hb dX3_meets_143 (by decide) ?_
        exact J_147 _ (by simp [on1M, bI, c_11, c_12, c_13]) _ _ hP hV ls hl
  · -- on
    refine lv_iload hx hb dX3_meets_103 (lv_at hl 7 rfl) ?_
    refine lv_iload hx hb dX3_meets_105 (lv_at hl 6 rfl) ?_
    refine lv_iload hx hb dX3_meets_107 (lv_at hl 5 rfl) ?_
    refine lv_iload hx hb dX3_meets_109 (lv_at hl 4 rfl) ?_
    refine lv_iload_n hx hb dX3_meets_111 rfl (lv_at hl 10 rfl) ?_
    refine lv_iload_n hx hb dX3_meets_112 rfl (lv_at hl 11 rfl) ?_
    refine g_call1 (va_runS (As := [.int (M 42 q), .int (M 43 q), .int (M 42 (q + 1)), .int (M 43 (q + 1)), .int px, .int py]) (rest := []) ⟨hx, hb, hml, hown, hts⟩ (c_X3_isBetween l x M (M 42 q) (M 43 q) (M 42 (q + 1)) (M 43 (q + 1)) px py) (va_cwS 6 hts gX3_meets_X3_isBetween rfl rfl rfl (by decide +kernel) ⟨Nat.le_of_ble_eq_true rfl, Nat.le_of_ble_eq_true rfl⟩) (g_preS hS hZ hP hV [.int (M 42 q), .int (M 43 q), .int (M 42 (q + 1)), .int (M 43 (q + 1)), .int px, .int py]) rfl rfl hl.1 rfl (lv_room (Nat.le_of_ble_eq_true rfl)) dX3_meets_113 ⟨Nat.le_of_ble_eq_true rfl, Nat.le_of_ble_eq_true rfl⟩) hV (fun H locs hP hV => ?_)
    refine h_if_ne_b (tgt := 142) hx hb dX3_meets_116 (by decide) (fun c_14 => ?_) (fun c_14 => ?_)
    · -- taken
      refine lv_iconst (v := 1) hx hb dX3_meets_142 (by decide) ?_
      refine lv_goto (tgt := 147) hx hb dX3_meets_143 (by decide) ?_
      exact J_147 _ (by simp [on1M, bI, c_11, c_14]) _ _ hP hV ls hl
    · -- on
      refine lv_iload hx hb dX3_meets_119 (lv_at hl 2 rfl) ?_
      refine lv_if_ne (tgt := 146) hx hb dX3_meets_121 (by decide) (fun c_15 => ?_) (fun c_15 => ?_)
      · -- taken
        refine lv_iconst (v := 0) hx hb dX3_meets_146 (by decide) ?_
        exact J_147 _ (by simp [on1M, bI, c_11, c_14, c_15]) _ _ hP hV ls hl
      · -- on
        refine lv_iload hx hb dX3_meets_124 (lv_at hl 7 rfl) ?_
        refine lv_iload hx hb dX3_meets_126 (lv_at hl 6 rfl) ?_
        refine lv_iload hx hb dX3_meets_128 (lv_at hl 5 rfl) ?_
        refine lv_iload hx hb dX3_meets_130 (lv_at hl 4 rfl) ?_
        refine lv_iload hx hb dX3_meets_132 (lv_at hl 12 rfl) ?_
        refine lv_iload hx hb dX3_meets_134 (lv_at hl 13 rfl) ?_
        refine g_call1 (va_runS (As := [.int (M 42 q), .int (M 43 q), .int (M 42 (q + 1)), .int (M 43 (q + 1)), .int tx, .int ty]) (rest := []) ⟨hx, hb, hml, hown, hts⟩ (c_X3_isBetween l x M (M 42 q) (M 43 q) (M 42 (q + 1)) (M 43 (q + 1)) tx ty) (va_cwS 6 hts gX3_meets_X3_isBetween rfl rfl rfl (by decide +kernel) ⟨Nat.le_of_ble_eq_true rfl, Nat.le_of_ble_eq_true rfl⟩) (g_preS hS hZ hP hV [.int (M 42 q), .int (M 43 q), .int (M 42 (q + 1)), .int (M 43 (q + 1)), .int tx, .int ty]) rfl rfl hl.1 rfl (lv_room (Nat.le_of_ble_eq_true rfl)) dX3_meets_136 ⟨Nat.le_of_ble_eq_true rfl, Nat.le_of_ble_eq_true rfl⟩) hV (fun H locs hP hV => ?_)
        refine h_if_eq_b (tgt := 146) hx hb dX3_meets_139 (by decide) (fun c_16 => ?_) (fun c_16 => ?_)
        · -- taken
          refine lv_iconst (v := 0) hx hb dX3_meets_146 (by decide) ?_
          exact J_147 _ (by simp [on1M, bI, c_11, c_14, c_15, c_16]) _ _ hP hV ls hl
        · -- on
          refine lv_iconst (v := 1) hx hb dX3_meets_142 (by decide) ?_
          refine lv_goto (tgt := 147) hx hb dX3_meets_143 (by decide) ?_
          exact J_147 _ (by simp [on1M, bI, c_11, c_14, c_15, c_16]) _ _ hP hV ls hl
set_option maxHeartbeats 4000000 in
set_option maxRecDepth 100000 in
theorem c_X3_doCross (l : Launch) (x : Cx) (M : Nat → Nat → Int32) (q u : Nat) (hq : q + 1 < 64) (hu : u + 1 < 64) : Met l yX3_doCross wsX3_doCross ({ frames := 3, cells := 0, slots := 0, locals := 83 }) (gP x M [.ref (xa x 38), .int (nI q), .int (nI u)]) (gQ x (some (.int (bI (cdM (M 42) (M 43) q u)))) M) 0 0 (gF x) := by
  refine g_met (cc := cX3_doCross) (maxL := 3) (ret := some .boolean) (by decide) rfl (Nat.le_of_ble_eq_true rfl) ?_
  intro p e s m below meth c hx hb hr hml hts hown hlk hS hZ hP hV ls hl
  have hl : lv_has ls 3 [(0, .ref (xa x 38)), (1, .int (nI q)), (2, .int (nI u))] := hl
  have hw_f19 := hts (.fieldLink RX3 19 "CableOfficeModel" "xs" "[I") (by decide +kernel)
  have hinX3 : ∀ w ∈ wsX30, w ∈ wsX3_doCross := by decide +kernel
  have hw_f22 := hts (.fieldLink RX3 22 "CableOfficeModel" "ys" "[I") (by decide +kernel)
  refine lv_aload_n hx hb dX3_doCross_0 rfl (lv_at hl 0 rfl) ?_
  refine lv_iload_n hx hb dX3_doCross_1 rfl (lv_at hl 1 rfl) ?_
  refine lv_aload_n hx hb dX3_doCross_2 rfl (lv_at hl 0 rfl) ?_
  refine g_get (C := RX3) (T := TX3) (N := 22) (v := .ref (xa x 42)) hx hb hts hinX3 hown hS hP (id := 38) (by decide) rfl rfl 6 (by decide) hw_f19 rfl dX3_doCross_3 ?_
  refine lv_iload_n hx hb dX3_doCross_6 rfl (lv_at hl 2 rfl) ?_
  refine g_iald (j := u) hx hb hS hP (id := 42) (by omega) ((fun _ => rfl) _) (by decide) rfl (by omega) dX3_doCross_7 ?_
  refine lv_aload_n hx hb dX3_doCross_8 rfl (lv_at hl 0 rfl) ?_
  refine g_get (C := RX3) (T := TX3) (N := 22) (v := .ref (xa x 43)) hx hb hts hinX3 hown hS hP (id := 38) (by decide) rfl rfl 7 (by decide) hw_f22 rfl dX3_doCross_9 ?_
  refine lv_iload_n hx hb dX3_doCross_12 rfl (lv_at hl 2 rfl) ?_
  refine g_iald (j := u) hx hb hS hP (id := 43) (by omega) ((fun _ => rfl) _) (by decide) rfl (by omega) dX3_doCross_13 ?_
  refine lv_aload_n hx hb dX3_doCross_14 rfl (lv_at hl 0 rfl) ?_
  refine g_get (C := RX3) (T := TX3) (N := 22) (v := .ref (xa x 42)) hx hb hts hinX3 hown hS hP (id := 38) (by decide) rfl rfl 6 (by decide) hw_f19 rfl dX3_doCross_15 ?_
  refine lv_iload_n hx hb dX3_doCross_18 rfl (lv_at hl 2 rfl) ?_
  refine lv_iconst (v := 1) hx hb dX3_doCross_19 (by decide) ?_
  refine h_iadd (v := nI (u + 1)) hx hb dX3_doCross_20 (nI_add (u) (1)) ?_
  refine g_iald (j := u + 1) hx hb hS hP (id := 42) (by omega) ((fun _ => rfl) _) (by decide) rfl (by omega) dX3_doCross_21 ?_
  refine lv_aload_n hx hb dX3_doCross_22 rfl (lv_at hl 0 rfl) ?_
  refine g_get (C := RX3) (T := TX3) (N := 22) (v := .ref (xa x 43)) hx hb hts hinX3 hown hS hP (id := 38) (by decide) rfl rfl 7 (by decide) hw_f22 rfl dX3_doCross_23 ?_
  refine lv_iload_n hx hb dX3_doCross_26 rfl (lv_at hl 2 rfl) ?_
  refine lv_iconst (v := 1) hx hb dX3_doCross_27 (by decide) ?_
  refine h_iadd (v := nI (u + 1)) hx hb dX3_doCross_28 (nI_add (u) (1)) ?_
  refine g_iald (j := u + 1) hx hb hS hP (id := 43) (by omega) ((fun _ => rfl) _) (by decide) rfl (by omega) dX3_doCross_29 ?_
  refine g_call1 (va_runV (As := [.int (nI q), .int (M 42 u), .int (M 43 u), .int (M 42 (u + 1)), .int (M 43 (u + 1))]) (rest := []) ⟨hx, hb, hml, hown, hts⟩ (c_X3_meets l x M q (M 42 u) (M 43 u) (M 42 (u + 1)) (M 43 (u + 1)) (by omega)) (cwV 5 hts gX3_doCross_X3_meets rfl rfl rfl (by decide +kernel) ⟨Nat.le_of_ble_eq_true rfl, Nat.le_of_ble_eq_true rfl⟩) (g_preV hS hZ hP hV [.int (nI q), .int (M 42 u), .int (M 43 u), .int (M 42 (u + 1)), .int (M 43 (u + 1))] (id := 38) (by decide) rfl rfl) rfl rfl hl.1 rfl (lv_room (Nat.le_of_ble_eq_true rfl)) dX3_doCross_30 ⟨Nat.le_of_ble_eq_true rfl, Nat.le_of_ble_eq_true rfl⟩) hV (fun H locs hP hV => ?_)
  exact g_zret hx hb hr hlk hS hZ hP hV (Nat.le_of_ble_eq_true rfl) (Nat.le_of_ble_eq_true rfl) dX3_doCross_33 (bI_nar _) (by rfl) (by rfl)
set_option maxHeartbeats 4000000 in
set_option maxRecDepth 100000 in
theorem c_X3_isSteep (l : Launch) (x : Cx) (M : Nat → Nat → Int32) (q u : Nat) (hq : q + 1 < 64) (hu : u + 1 < 64) : Met l yX3_isSteep wsX3_isSteep ({ frames := 0, cells := 0, slots := 0, locals := 0 }) (gP x M [.ref (xa x 38), .int (nI q), .int (nI u)]) (gQ x (some (.int (bI (stM (M 42) (M 43) q u)))) M) 0 0 (gF x) := by
  refine g_met (cc := cX3_isSteep) (maxL := 9) (ret := some .boolean) (by decide) rfl (Nat.le_of_ble_eq_true rfl) ?_
  intro p e s m below meth c hx hb hr hml hts hown hlk hS hZ hP hV ls hl
  have hl : lv_has ls 9 [(0, .ref (xa x 38)), (1, .int (nI q)), (2, .int (nI u))] := hl
  have hw_f19 := hts (.fieldLink RX3 19 "CableOfficeModel" "xs" "[I") (by decide +kernel)
  have hinX3 : ∀ w ∈ wsX30, w ∈ wsX3_isSteep := by decide +kernel
  have hw_f22 := hts (.fieldLink RX3 22 "CableOfficeModel" "ys" "[I") (by decide +kernel)
  refine lv_aload_n hx hb dX3_isSteep_0 rfl (lv_at hl 0 rfl) ?_
  refine g_get (C := RX3) (T := TX3) (N := 22) (v := .ref (xa x 42)) hx hb hts hinX3 hown hS hP (id := 38) (by decide) rfl rfl 6 (by decide) hw_f19 rfl dX3_isSteep_1 ?_
  refine lv_iload_n hx hb dX3_isSteep_4 rfl (lv_at hl 1 rfl) ?_
  refine lv_iconst (v := 1) hx hb dX3_isSteep_5 (by decide) ?_
  refine h_iadd (v := nI (q + 1)) hx hb dX3_isSteep_6 (nI_add (q) (1)) ?_
  refine g_iald (j := q + 1) hx hb hS hP (id := 42) (by omega) ((fun _ => rfl) _) (by decide) rfl (by omega) dX3_isSteep_7 ?_
  refine lv_aload_n hx hb dX3_isSteep_8 rfl (lv_at hl 0 rfl) ?_
  refine g_get (C := RX3) (T := TX3) (N := 22) (v := .ref (xa x 42)) hx hb hts hinX3 hown hS hP (id := 38) (by decide) rfl rfl 6 (by decide) hw_f19 rfl dX3_isSteep_9 ?_
  refine lv_iload_n hx hb dX3_isSteep_12 rfl (lv_at hl 1 rfl) ?_
  refine g_iald (j := q) hx hb hS hP (id := 42) (by omega) ((fun _ => rfl) _) (by decide) rfl (by omega) dX3_isSteep_13 ?_
  refine lv_isub hx hb dX3_isSteep_14 ?_
  refine lv_istore_n (lv' := [(3, .int ((M 42 (q + 1)) - (M 42 q))), (0, .ref (xa x 38)), (1, .int (nI q)), (2, .int (nI u))]) hx hb dX3_isSteep_15 rfl hl (by decide) rfl (fun ls hl => ?_)
  refine lv_aload_n hx hb dX3_isSteep_16 rfl (lv_at hl 1 rfl) ?_
  refine g_get (C := RX3) (T := TX3) (N := 22) (v := .ref (xa x 43)) hx hb hts hinX3 hown hS hP (id := 38) (by decide) rfl rfl 7 (by decide) hw_f22 rfl dX3_isSteep_17 ?_
  refine lv_iload_n hx hb dX3_isSteep_20 rfl (lv_at hl 2 rfl) ?_
  refine lv_iconst (v := 1) hx hb dX3_isSteep_21 (by decide) ?_
  refine h_iadd (v := nI (q + 1)) hx hb dX3_isSteep_22 (nI_add (q) (1)) ?_
  refine g_iald (j := q + 1) hx hb hS hP (id := 43) (by omega) ((fun _ => rfl) _) (by decide) rfl (by omega) dX3_isSteep_23 ?_
  refine lv_aload_n hx hb dX3_isSteep_24 rfl (lv_at hl 1 rfl) ?_
  refine g_get (C := RX3) (T := TX3) (N := 22) (v := .ref (xa x 43)) hx hb hts hinX3 hown hS hP (id := 38) (by decide) rfl rfl 7 (by decide) hw_f22 rfl dX3_isSteep_25 ?_
  refine lv_iload_n hx hb dX3_isSteep_28 rfl (lv_at hl 2 rfl) ?_
  refine g_iald (j := q) hx hb hS hP (id := 43) (by omega) ((fun _ => rfl) _) (by decide) rfl (by omega) dX3_isSteep_29 ?_
  refine lv_isub hx hb dX3_isSteep_30 ?_
  refine lv_istore (lv' := [(4, .int ((M 43 (q + 1)) - (M 43 q))), (3, .int ((M 42 (q + 1)) - (M 42 q))), (0, .ref (xa x 38)), (1, .int (nI q)), (2, .int (nI u))]) hx hb dX3_isSteep_31 hl (by decide) rfl (fun ls hl => ?_)
  refine lv_aload_n hx hb dX3_isSteep_33 rfl (lv_at hl 2 rfl) ?_
  refine g_get (C := RX3) (T := TX3) (N := 22) (v := .ref (xa x 42)) hx hb hts hinX3 hown hS hP (id := 38) (by decide) rfl rfl 6 (by decide) hw_f19 rfl dX3_isSteep_34 ?_
  refine lv_iload_n hx hb dX3_isSteep_37 rfl (lv_at hl 4 rfl) ?_
  refine lv_iconst (v := 1) hx hb dX3_isSteep_38 (by decide) ?_
  refine h_iadd (v := nI (u + 1)) hx hb dX3_isSteep_39 (nI_add (u) (1)) ?_
  refine g_iald (j := u + 1) hx hb hS hP (id := 42) (by omega) ((fun _ => rfl) _) (by decide) rfl (by omega) dX3_isSteep_40 ?_
  refine lv_aload_n hx hb dX3_isSteep_41 rfl (lv_at hl 2 rfl) ?_
  refine g_get (C := RX3) (T := TX3) (N := 22) (v := .ref (xa x 42)) hx hb hts hinX3 hown hS hP (id := 38) (by decide) rfl rfl 6 (by decide) hw_f19 rfl dX3_isSteep_42 ?_
  refine lv_iload_n hx hb dX3_isSteep_45 rfl (lv_at hl 4 rfl) ?_
  refine g_iald (j := u) hx hb hS hP (id := 42) (by omega) ((fun _ => rfl) _) (by decide) rfl (by omega) dX3_isSteep_46 ?_
  refine lv_isub hx hb dX3_isSteep_47 ?_
  refine lv_istore (lv' := [(5, .int ((M 42 (u + 1)) - (M 42 u))), (4, .int ((M 43 (q + 1)) - (M 43 q))), (3, .int ((M 42 (q + 1)) - (M 42 q))), (0, .ref (xa x 38)), (1, .int (nI q)), (2, .int (nI u))]) hx hb dX3_isSteep_48 hl (by decide) rfl (fun ls hl => ?_)
  refine lv_aload_n hx hb dX3_isSteep_50 rfl (lv_at hl 3 rfl) ?_
  refine g_get (C := RX3) (T := TX3) (N := 22) (v := .ref (xa x 43)) hx hb hts hinX3 hown hS hP (id := 38) (by decide) rfl rfl 7 (by decide) hw_f22 rfl dX3_isSteep_51 ?_
  refine lv_iload_n hx hb dX3_isSteep_54 rfl (lv_at hl 5 rfl) ?_
  refine lv_iconst (v := 1) hx hb dX3_isSteep_55 (by decide) ?_
  refine h_iadd (v := nI (u + 1)) hx hb dX3_isSteep_56 (nI_add (u) (1)) ?_
  refine g_iald (j := u + 1) hx hb hS hP (id := 43) (by omega) ((fun _ => rfl) _) (by decide) rfl (by omega) dX3_isSteep_57 ?_
  refine lv_aload_n hx hb dX3_isSteep_58 rfl (lv_at hl 3 rfl) ?_
  refine g_get (C := RX3) (T := TX3) (N := 22) (v := .ref (xa x 43)) hx hb hts hinX3 hown hS hP (id := 38) (by decide) rfl rfl 7 (by decide) hw_f22 rfl dX3_isSteep_59 ?_
  refine lv_iload_n hx hb dX3_isSteep_62 rfl (lv_at hl 5 rfl) ?_
  refine g_iald (j := u) hx hb hS hP (id := 43) (by omega) ((fun _ => rfl) _) (by decide) rfl (by omega) dX3_isSteep_63 ?_
  refine lv_isub hx hb dX3_isSteep_64 ?_
  refine lv_istore (lv' := [(6, .int ((M 43 (u + 1)) - (M 43 u))), (5, .int ((M 42 (u + 1)) - (M 42 u))), (4, .int ((M 43 (q + 1)) - (M 43 q))), (3, .int ((M 42 (q + 1)) - (M 42 q))), (0, .ref (xa x 38)), (1, .int (nI q)), (2, .int (nI u))]) hx hb dX3_isSteep_65 hl (by decide) rfl (fun ls hl => ?_)
  refine lv_iload_n hx hb dX3_isSteep_67 rfl (lv_at hl 3 rfl) ?_
  refine lv_iload hx hb dX3_isSteep_68 (lv_at hl 1 rfl) ?_
  refine lv_imul hx hb dX3_isSteep_70 ?_
  refine lv_iload hx hb dX3_isSteep_71 (lv_at hl 2 rfl) ?_
  refine lv_iload hx hb dX3_isSteep_73 (lv_at hl 0 rfl) ?_
  refine lv_imul hx hb dX3_isSteep_75 ?_
  refine lv_iadd hx hb dX3_isSteep_76 ?_
  refine lv_istore (lv' := [(7, .int ((((M 42 (q + 1)) - (M 42 q)) * ((M 42 (u + 1)) - (M 42 u))) + (((M 43 (q + 1)) - (M 43 q)) * ((M 43 (u + 1)) - (M 43 u))))), (6, .int ((M 43 (u + 1)) - (M 43 u))), (5, .int ((M 42 (u + 1)) - (M 42 u))), (4, .int ((M 43 (q + 1)) - (M 43 q))), (3, .int ((M 42 (q + 1)) - (M 42 q))), (0, .ref (xa x 38)), (1, .int (nI q)), (2, .int (nI u))]) hx hb dX3_isSteep_77 hl (by decide) rfl (fun ls hl => ?_)
  refine lv_iload_n hx hb dX3_isSteep_79 rfl (lv_at hl 4 rfl) ?_
  refine lv_iload hx hb dX3_isSteep_80 (lv_at hl 1 rfl) ?_
  refine lv_imul hx hb dX3_isSteep_82 ?_
  refine lv_iload hx hb dX3_isSteep_83 (lv_at hl 3 rfl) ?_
  refine lv_iload hx hb dX3_isSteep_85 (lv_at hl 2 rfl) ?_
  refine lv_imul hx hb dX3_isSteep_87 ?_
  refine lv_isub hx hb dX3_isSteep_88 ?_
  refine lv_istore (lv' := [(8, .int ((((M 42 (q + 1)) - (M 42 q)) * ((M 43 (u + 1)) - (M 43 u))) - (((M 43 (q + 1)) - (M 43 q)) * ((M 42 (u + 1)) - (M 42 u))))), (7, .int ((((M 42 (q + 1)) - (M 42 q)) * ((M 42 (u + 1)) - (M 42 u))) + (((M 43 (q + 1)) - (M 43 q)) * ((M 43 (u + 1)) - (M 43 u))))), (6, .int ((M 43 (u + 1)) - (M 43 u))), (5, .int ((M 42 (u + 1)) - (M 42 u))), (4, .int ((M 43 (q + 1)) - (M 43 q))), (3, .int ((M 42 (q + 1)) - (M 42 q))), (0, .ref (xa x 38)), (1, .int (nI q)), (2, .int (nI u))]) hx hb dX3_isSteep_89 hl (by decide) rfl (fun ls hl => ?_)
  have J_104 : ∀ v : Int32, v = absN ((M 42 (q + 1) - M 42 q) * (M 42 (u + 1) - M 42 u) + (M 43 (q + 1) - M 43 q) * (M 43 (u + 1) - M 43 u)) → ∀ (H : Heap) (locs : List Loc), va_P (xD x) vwCl (wAll x M) H → va_S (gF x) s.heap H locs → ∀ ls : Array Slot, lv_has ls 9 [(8, .int ((((M 42 (q + 1)) - (M 42 q)) * ((M 43 (u + 1)) - (M 43 u))) - (((M 43 (q + 1)) - (M 43 q)) * ((M 42 (u + 1)) - (M 42 u))))), (7, .int ((((M 42 (q + 1)) - (M 42 q)) * ((M 42 (u + 1)) - (M 42 u))) + (((M 43 (q + 1)) - (M 43 q)) * ((M 43 (u + 1)) - (M 43 u))))), (6, .int ((M 43 (u + 1)) - (M 43 u))), (5, .int ((M 42 (u + 1)) - (M 42 u))), (4, .int ((M 43 (q + 1)) - (M 43 q))), (3, .int ((M 42 (q + 1)) - (M 42 q))), (0, .ref (xa x 38)), (1, .int (nI q)), (2, .int (nI u))] → W p l e ({ frames := 0, cells := 0, slots := 0, locals := 0 }) s m ([.ref (xa x 38), .int (nI q), .int (nI u)] : List Value).toArray below meth c H locs 0 0 (MQ below (gQ x (some (.int (bI (stM (M 42) (M 43) q u)))) M) ([.ref (xa x 38), .int (nI q), .int (nI u)] : List Value).toArray s 0 0 (gF x)) (F0 m 104 ls (.int v :: [])) := by
    intro v hv H locs hP hV ls hl
    subst hv
    have J_117 : ∀ v : Int32, v = absN ((M 42 (q + 1) - M 42 q) * (M 43 (u + 1) - M 43 u) - (M 43 (q + 1) - M 43 q) * (M 42 (u + 1) - M 42 u)) → ∀ (H : Heap) (locs : List Loc), va_P (xD x) vwCl (wAll x M) H → va_S (gF x) s.heap H locs → ∀ ls : Array Slot, lv_has ls 9 [(8, .int ((((M 42 (q + 1)) - (M 42 q)) * ((M 43 (u + 1)) - (M 43 u))) - (((M 43 (q + 1)) - (M 43 q)) * ((M 42 (u + 1)) - (M 42 u))))), (7, .int ((((M 42 (q + 1)) - (M 42 q)) * ((M 42 (u + 1)) - (M 42 u))) + (((M 43 (q + 1)) - (M 43 q)) * ((M 43 (u + 1)) - (M 43 u))))), (6, .int ((M 43 (u + 1)) - (M 43 u))), (5, .int ((M 42 (u + 1)) - (M 42 u))), (4, .int ((M 43 (q + 1)) - (M 43 q))), (3, .int ((M 42 (q + 1)) - (M 42 q))), (0, .ref (xa x 38)), (1, .int (nI q)), (2, .int (nI u))] → W p l e ({ frames := 0, cells := 0, slots := 0, locals := 0 }) s m ([.ref (xa x 38), .int (nI q), .int (nI u)] : List Value).toArray below meth c H locs 0 0 (MQ below (gQ x (some (.int (bI (stM (M 42) (M 43) q u)))) M) ([.ref (xa x 38), .int (nI q), .int (nI u)] : List Value).toArray s 0 0 (gF x)) (F0 m 117 ls (.int v :: .int (absN ((M 42 (q + 1) - M 42 q) * (M 42 (u + 1) - M 42 u) + (M 43 (q + 1) - M 43 q) * (M 43 (u + 1) - M 43 u))) :: [])) := by
      intro v hv H locs hP hV ls hl
      subst hv
      refine lv_icmp_gt (tgt := 124) hx hb dX3_isSteep_117 (by decide) (fun c_1 => ?_) (fun c_1 => ?_)
      · -- taken
        refine lv_iconst (v := 0) hx hb dX3_isSteep_124 (by decide) ?_
        exact g_zret hx hb hr hlk hS hZ hP hV (Nat.le_of_ble_eq_true rfl) (Nat.le_of_ble_eq_true rfl) dX3_isSteep_125 (by decide) (by simp [stM, bI, c_1]) (by rfl)
      · -- on
        refine lv_iconst (v := 1) hx hb dX3_isSteep_120 (by decide) ?_
        refine lv_goto (tgt := 125) hx hb dX3_isSteep_121 (by decide) ?_
        exact g_zret hx hb hr hlk hS hZ hP hV (Nat.le_of_ble_eq_true rfl) (Nat.le_of_ble_eq_true rfl) dX3_isSteep_125 (by decide) (by simp [stM, bI, c_1]) (by rfl)
    refine lv_iload hx hb dX3_isSteep_104 (lv_at hl 0 rfl) ?_
    refine lv_if_ge (tgt := 115) hx hb dX3_isSteep_106 (by decide) (fun c_2 => ?_) (fun c_2 => ?_)
    · -- taken
      refine lv_iload hx hb dX3_isSteep_115 (lv_at hl 0 rfl) ?_
      exact J_117 _ (by simp only [absN, if_pos, if_neg, c_2, not_false_eq_true]) _ _ hP hV ls hl
    · -- on
      refine lv_iload hx hb dX3_isSteep_109 (lv_at hl 0 rfl) ?_
      refine lv_ineg hx hb dX3_isSteep_111 ?_
      refine lv_goto (tgt := 117) hx hb dX3_isSteep_112 (by decide) ?_
      exact J_117 _ (by simp only [absN, if_pos, if_neg, c_2, not_false_eq_true]) _ _ hP hV ls hl
  refine lv_iload hx hb dX3_isSteep_91 (lv_at hl 1 rfl) ?_
  refine lv_if_ge (tgt := 102) hx hb dX3_isSteep_93 (by decide) (fun c_3 => ?_) (fun c_3 => ?_)
  · -- taken
    refine lv_iload hx hb dX3_isSteep_102 (lv_at hl 1 rfl) ?_
    exact J_104 _ (by simp only [absN, if_pos, if_neg, c_3, not_false_eq_true]) _ _ hP hV ls hl
  · -- on
    refine lv_iload hx hb dX3_isSteep_96 (lv_at hl 1 rfl) ?_
    refine lv_ineg hx hb dX3_isSteep_98 ?_
    refine lv_goto (tgt := 104) hx hb dX3_isSteep_99 (by decide) ?_
    exact J_104 _ (by simp only [absN, if_pos, if_neg, c_3, not_false_eq_true]) _ _ hP hV ls hl
set_option maxHeartbeats 4000000 in
set_option maxRecDepth 100000 in
theorem c_X3_crossed (l : Launch) (x : Cx) (M : Nat → Nat → Int32) (cn gn dn : Nat) (pn : Nat → Nat) (i j : Nat) (hM : OkM M cn gn dn pn) (hi : i < cn) (hj : j < cn) : Met l yX3_crossed wsX3_crossed ({ frames := 4, cells := 0, slots := 0, locals := 105 }) (gP x M [.ref (xa x 38), .int (nI i), .int (nI j)]) (gQ x (some (.int (nI (crM false M pn i j)))) M) 0 0 (gF x) := by
  refine g_met (cc := cX3_crossed) (maxL := 6) (ret := some .int) (by decide) rfl (Nat.le_of_ble_eq_true rfl) ?_
  intro p e s m below meth c hx hb hr hml hts hown hlk hS hZ hP hV ls hl
  have hl : lv_has ls 6 [(0, .ref (xa x 38)), (1, .int (nI i)), (2, .int (nI j))] := hl
  have hw_f16 := hts (.fieldLink RX3 16 "CableOfficeModel" "counts" "[I") (by decide +kernel)
  have hinX3 : ∀ w ∈ wsX30, w ∈ wsX3_crossed := by decide +kernel
  have hc8 := hM.c8
  have hg5 := hM.g5
  have hd8 := hM.d8
  have h7i := hM.p7 hi
  have h7j := hM.p7 hj
  refine lv_iconst (v := 0) hx hb dX3_crossed_0 (by decide) ?_
  refine lv_istore_n (lv' := [(3, .int 0), (0, .ref (xa x 38)), (1, .int (nI i)), (2, .int (nI j))]) hx hb dX3_crossed_1 rfl hl (by decide) rfl (fun ls hl => ?_)
  refine lv_iconst (v := 0) hx hb dX3_crossed_2 (by decide) ?_
  refine lv_istore (lv' := [(4, .int 0), (3, .int 0), (0, .ref (xa x 38)), (1, .int (nI i)), (2, .int (nI j))]) hx hb dX3_crossed_3 hl (by decide) rfl (fun ls hl => ?_)
  have lp_5 : ∀ (nn k : Nat), (pn i) - k < nn → k ≤ (pn i) → ∀ (H : Heap) (locs : List Loc), va_P (xD x) vwCl (wAll x M) H → va_S (gF x) s.heap H locs → ∀ ls : Array Slot, lv_has ls 6 [(4, .int (nI k)), (3, .int (nI (if i = j then 0 else cnt2 (fM false (M 42) (M 43) i j) (pn j) k))), (0, .ref (xa x 38)), (1, .int (nI i)), (2, .int (nI j))] → W p l e ({ frames := 4, cells := 0, slots := 0, locals := 105 }) s m ([.ref (xa x 38), .int (nI i), .int (nI j)] : List Value).toArray below meth c H locs 0 0 (MQ below (gQ x (some (.int (nI (crM false M pn i j)))) M) ([.ref (xa x 38), .int (nI i), .int (nI j)] : List Value).toArray s 0 0 (gF x)) (F0 m 5 ls []) := by
    intro nn
    induction nn with
    | zero => intro k hz; exact absurd hz (Nat.not_lt_zero _)
    | succ nn ih_5 =>
      intro k hf_5 hk_5  H locs hP hV ls hl
      have hcl : (if i = j then 0 else cnt2 (fM false (M 42) (M 43) i j) (pn j) k) ≤ 56 := crX_le h7i h7j hk_5
      refine lv_iload hx hb dX3_crossed_5 (lv_at hl 0 rfl) ?_
      refine lv_aload_n hx hb dX3_crossed_7 rfl (lv_at hl 2 rfl) ?_
      refine g_get (C := RX3) (T := TX3) (N := 22) (v := .ref (xa x 41)) hx hb hts hinX3 hown hS hP (id := 38) (by decide) rfl rfl 5 (by decide) hw_f16 rfl dX3_crossed_8 ?_
      refine lv_iload_n hx hb dX3_crossed_11 rfl (lv_at hl 3 rfl) ?_
      refine g_iald (j := i) hx hb hS hP (id := 41) (by omega) ((fun _ => rfl) _) (by decide) rfl (by omega) dX3_crossed_12 ?_
      rw [(hM.p (by omega))]
      refine lv_iconst (v := 1) hx hb dX3_crossed_13 (by decide) ?_
      refine h_isub (v := nI (pn i)) hx hb dX3_crossed_14 (h_sub (pn i) 1) ?_
      refine h_icmp_ge_n (a := k) (b := pn i) (tgt := 80) hx hb (by omega) (by omega) dX3_crossed_15 (by decide) (fun c_1 => ?_) (fun c_1 => ?_)
      · -- taken
        refine lv_iload_n hx hb dX3_crossed_80 rfl (lv_at hl 1 rfl) ?_
        exact g_iret hx hb hr hlk hS hZ hP hV (Nat.le_of_ble_eq_true rfl) (Nat.le_of_ble_eq_true rfl) dX3_crossed_81 (by first | rw [crX_eq (by omega) (by omega)] | rw [crX_i (by assumption)]) (by rfl)
      · -- on
        refine lv_iload_n hx hb dX3_crossed_18 rfl (lv_at hl 3 rfl) ?_
        refine lv_iload_n hx hb dX3_crossed_19 rfl (lv_at hl 4 rfl) ?_
        refine h_icmp_eq_n (a := i) (b := j) (tgt := 80) hx hb (by omega) (by omega) dX3_crossed_20 (by decide) (fun c_2 => ?_) (fun c_2 => ?_)
        · -- taken
          refine lv_iload_n hx hb dX3_crossed_80 rfl (lv_at hl 1 rfl) ?_
          exact g_iret hx hb hr hlk hS hZ hP hV (Nat.le_of_ble_eq_true rfl) (Nat.le_of_ble_eq_true rfl) dX3_crossed_81 (by first | rw [crX_eq (by omega) (by omega)] | rw [crX_i (by assumption)]) (by rfl)
        · -- on
          have hne : ¬ i = j := c_2
          refine lv_iconst (v := 0) hx hb dX3_crossed_23 (by decide) ?_
          refine lv_istore (lv' := [(5, .int 0), (4, .int (nI k)), (3, .int (nI (if i = j then 0 else cnt2 (fM false (M 42) (M 43) i j) (pn j) k))), (0, .ref (xa x 38)), (1, .int (nI i)), (2, .int (nI j))]) hx hb dX3_crossed_24 hl (by decide) rfl (fun ls hl => ?_)
          have lp_26 : ∀ (nn t : Nat), (pn j) - t < nn → t ≤ (pn j) → ∀ (H : Heap) (locs : List Loc), va_P (xD x) vwCl (wAll x M) H → va_S (gF x) s.heap H locs → ∀ ls : Array Slot, lv_has ls 6 [(5, .int (nI t)), (4, .int (nI k)), (3, .int (nI (cnt2 (fM false (M 42) (M 43) i j) (pn j) k + cntB ((fM false (M 42) (M 43) i j) k) t))), (0, .ref (xa x 38)), (1, .int (nI i)), (2, .int (nI j))] → W p l e ({ frames := 4, cells := 0, slots := 0, locals := 105 }) s m ([.ref (xa x 38), .int (nI i), .int (nI j)] : List Value).toArray below meth c H locs 0 0 (MQ below (gQ x (some (.int (nI (crM false M pn i j)))) M) ([.ref (xa x 38), .int (nI i), .int (nI j)] : List Value).toArray s 0 0 (gF x)) (F0 m 26 ls []) := by
            intro nn
            induction nn with
            | zero => intro t hz; exact absurd hz (Nat.not_lt_zero _)
            | succ nn ih_26 =>
              intro t hf_26 hk_26  H locs hP hV ls hl
              have hcb := cntB_le ((fM false (M 42) (M 43) i j) k) t
              refine lv_iload hx hb dX3_crossed_26 (lv_at hl 0 rfl) ?_
              refine lv_aload_n hx hb dX3_crossed_28 rfl (lv_at hl 3 rfl) ?_
              refine g_get (C := RX3) (T := TX3) (N := 22) (v := .ref (xa x 41)) hx hb hts hinX3 hown hS hP (id := 38) (by decide) rfl rfl 5 (by decide) hw_f16 rfl dX3_crossed_29 ?_
              refine lv_iload_n hx hb dX3_crossed_32 rfl (lv_at hl 5 rfl) ?_
              refine g_iald (j := j) hx hb hS hP (id := 41) (by omega) ((fun _ => rfl) _) (by decide) rfl (by omega) dX3_crossed_33 ?_
              rw [(hM.p (by omega))]
              refine lv_iconst (v := 1) hx hb dX3_crossed_34 (by decide) ?_
              refine h_isub (v := nI (pn j)) hx hb dX3_crossed_35 (h_sub (pn j) 1) ?_
              refine h_icmp_ge_n (a := t) (b := pn j) (tgt := 74) hx hb (by omega) (by omega) dX3_crossed_36 (by decide) (fun c_3 => ?_) (fun c_3 => ?_)
              · -- taken
                refine lv_iinc (v := nI (k + 1)) (lv' := [(4, .int (nI (k + 1))), (5, .int (nI t)), (3, .int (nI (cnt2 (fM false (M 42) (M 43) i j) (pn j) k + cntB ((fM false (M 42) (M 43) i j) k) t))), (0, .ref (xa x 38)), (1, .int (nI i)), (2, .int (nI j))]) hx hb dX3_crossed_74 hl (k := 1) rfl (nI_add (k) 1) (by decide) rfl (fun ls hl => ?_)
                refine lv_goto (tgt := 5) hx hb dX3_crossed_77 (by decide) ?_
                exact ih_5 (k + 1) (by omega) (by omega)  _ _ hP hV ls (lv_sub hl [0, 2, 3, 4, 5] (show ([(4, .int (nI (k + 1))), (3, .int (nI (cnt2 (fM false (M 42) (M 43) i j) (pn j) k + cntB ((fM false (M 42) (M 43) i j) k) t))), (0, .ref (xa x 38)), (1, .int (nI i)), (2, .int (nI j))] : List (Nat × Value)) = [(4, .int (nI (k + 1))), (3, .int (nI (if i = j then 0 else cnt2 (fM false (M 42) (M 43) i j) (pn j) (k + 1)))), (0, .ref (xa x 38)), (1, .int (nI i)), (2, .int (nI j))] from by rw [if_neg hne, show t = pn j by omega]; rfl))
              · -- on
                refine lv_iload_n hx hb dX3_crossed_39 rfl (lv_at hl 2 rfl) ?_
                refine lv_aload_n hx hb dX3_crossed_40 rfl (lv_at hl 3 rfl) ?_
                refine lv_bipush (v := 8) hx hb dX3_crossed_41 (by decide) ?_
                refine lv_iload_n hx hb dX3_crossed_43 rfl (lv_at hl 4 rfl) ?_
                refine h_imul (v := nI (8 * i)) hx hb dX3_crossed_44 (pk_mul (8) (i)) ?_
                refine lv_iload hx hb dX3_crossed_45 (lv_at hl 1 rfl) ?_
                refine h_iadd (v := nI (8 * i + k)) hx hb dX3_crossed_47 (nI_add (8 * i) (k)) ?_
                refine lv_bipush (v := 8) hx hb dX3_crossed_48 (by decide) ?_
                refine lv_iload_n hx hb dX3_crossed_50 rfl (lv_at hl 5 rfl) ?_
                refine h_imul (v := nI (8 * j)) hx hb dX3_crossed_51 (pk_mul (8) (j)) ?_
                refine lv_iload hx hb dX3_crossed_52 (lv_at hl 0 rfl) ?_
                refine h_iadd (v := nI (8 * j + t)) hx hb dX3_crossed_54 (nI_add (8 * j) (t)) ?_
                refine g_call1 (va_runV (As := [.int (nI (8 * i + k)), .int (nI (8 * j + t))]) (rest := [.int (nI (cnt2 (fM false (M 42) (M 43) i j) (pn j) k + cntB ((fM false (M 42) (M 43) i j) k) t))]) ⟨hx, hb, hml, hown, hts⟩ (c_X3_doCross l x M (8 * i + k) (8 * j + t) (by omega) (by omega)) (cwV 2 hts gX3_crossed_X3_doCross rfl rfl rfl (by decide +kernel) ⟨Nat.le_of_ble_eq_true rfl, Nat.le_of_ble_eq_true rfl⟩) (g_preV hS hZ hP hV [.int (nI (8 * i + k)), .int (nI (8 * j + t))] (id := 38) (by decide) rfl rfl) rfl rfl hl.1 rfl (lv_room (Nat.le_of_ble_eq_true rfl)) dX3_crossed_55 ⟨Nat.le_of_ble_eq_true rfl, Nat.le_of_ble_eq_true rfl⟩) hV (fun H locs hP hV => ?_)
                refine h_if_eq_b (tgt := 65) hx hb dX3_crossed_58 (by decide) (fun c_4 => ?_) (fun c_4 => ?_)
                · -- taken
                  refine lv_iconst (v := 0) hx hb dX3_crossed_65 (by decide) ?_
                  refine h_iadd (v := nI (cnt2 (fM false (M 42) (M 43) i j) (pn j) k + cntB ((fM false (M 42) (M 43) i j) k) t)) hx hb dX3_crossed_66 (by exact Int32.add_zero _) ?_
                  refine lv_istore_n (lv' := [(3, .int (nI (cnt2 (fM false (M 42) (M 43) i j) (pn j) k + cntB ((fM false (M 42) (M 43) i j) k) t))), (5, .int (nI t)), (4, .int (nI k)), (0, .ref (xa x 38)), (1, .int (nI i)), (2, .int (nI j))]) hx hb dX3_crossed_67 rfl hl (by decide) rfl (fun ls hl => ?_)
                  refine lv_iinc (v := nI (t + 1)) (lv' := [(5, .int (nI (t + 1))), (3, .int (nI (cnt2 (fM false (M 42) (M 43) i j) (pn j) k + cntB ((fM false (M 42) (M 43) i j) k) t))), (4, .int (nI k)), (0, .ref (xa x 38)), (1, .int (nI i)), (2, .int (nI j))]) hx hb dX3_crossed_68 hl (k := 1) rfl (nI_add (t) 1) (by decide) rfl (fun ls hl => ?_)
                  refine lv_goto (tgt := 26) hx hb dX3_crossed_71 (by decide) ?_
                  exact ih_26 (t + 1) (by omega) (by omega)  _ _ hP hV ls (lv_sub hl [0, 2, 1, 3, 4, 5] (show ([(5, .int (nI (t + 1))), (4, .int (nI k)), (3, .int (nI (cnt2 (fM false (M 42) (M 43) i j) (pn j) k + cntB ((fM false (M 42) (M 43) i j) k) t))), (0, .ref (xa x 38)), (1, .int (nI i)), (2, .int (nI j))] : List (Nat × Value)) = [(5, .int (nI (t + 1))), (4, .int (nI k)), (3, .int (nI (cnt2 (fM false (M 42) (M 43) i j) (pn j) k + cntB ((fM false (M 42) (M 43) i j) k) (t + 1)))), (0, .ref (xa x 38)), (1, .int (nI i)), (2, .int (nI j))] from by have hv : ((fM false (M 42) (M 43) i j) k) t = false := (by simp [fM, c_1, c_2, c_3, c_4] <;> omega); rw [cntB_f (f := ((fM false (M 42) (M 43) i j) k)) (t := t) hv]; try rfl))
                · -- on
                  refine lv_iconst (v := 1) hx hb dX3_crossed_61 (by decide) ?_
                  refine lv_goto (tgt := 66) hx hb dX3_crossed_62 (by decide) ?_
                  refine h_iadd (v := nI ((cnt2 (fM false (M 42) (M 43) i j) (pn j) k + cntB ((fM false (M 42) (M 43) i j) k) t) + 1)) hx hb dX3_crossed_66 (nI_add (cnt2 (fM false (M 42) (M 43) i j) (pn j) k + cntB ((fM false (M 42) (M 43) i j) k) t) 1) ?_
                  refine lv_istore_n (lv' := [(3, .int (nI ((cnt2 (fM false (M 42) (M 43) i j) (pn j) k + cntB ((fM false (M 42) (M 43) i j) k) t) + 1))), (5, .int (nI t)), (4, .int (nI k)), (0, .ref (xa x 38)), (1, .int (nI i)), (2, .int (nI j))]) hx hb dX3_crossed_67 rfl hl (by decide) rfl (fun ls hl => ?_)
                  refine lv_iinc (v := nI (t + 1)) (lv' := [(5, .int (nI (t + 1))), (3, .int (nI ((cnt2 (fM false (M 42) (M 43) i j) (pn j) k + cntB ((fM false (M 42) (M 43) i j) k) t) + 1))), (4, .int (nI k)), (0, .ref (xa x 38)), (1, .int (nI i)), (2, .int (nI j))]) hx hb dX3_crossed_68 hl (k := 1) rfl (nI_add (t) 1) (by decide) rfl (fun ls hl => ?_)
                  refine lv_goto (tgt := 26) hx hb dX3_crossed_71 (by decide) ?_
                  exact ih_26 (t + 1) (by omega) (by omega)  _ _ hP hV ls (lv_sub hl [0, 2, 1, 3, 4, 5] (show ([(5, .int (nI (t + 1))), (4, .int (nI k)), (3, .int (nI ((cnt2 (fM false (M 42) (M 43) i j) (pn j) k + cntB ((fM false (M 42) (M 43) i j) k) t) + 1))), (0, .ref (xa x 38)), (1, .int (nI i)), (2, .int (nI j))] : List (Nat × Value)) = [(5, .int (nI (t + 1))), (4, .int (nI k)), (3, .int (nI (cnt2 (fM false (M 42) (M 43) i j) (pn j) k + cntB ((fM false (M 42) (M 43) i j) k) (t + 1)))), (0, .ref (xa x 38)), (1, .int (nI i)), (2, .int (nI j))] from by have hv : ((fM false (M 42) (M 43) i j) k) t = true := (by simp [fM, c_1, c_2, c_3, c_4] <;> omega); rw [cntB_t (f := ((fM false (M 42) (M 43) i j) k)) (t := t) hv]; try rfl))
          exact lp_26 ((pn j) - (0) + 1) (0) (by omega) (by omega)  _ _ hP hV ls (lv_sub hl [0, 1, 2, 3, 4, 5] (show ([(5, .int 0), (4, .int (nI k)), (3, .int (nI (if i = j then 0 else cnt2 (fM false (M 42) (M 43) i j) (pn j) k))), (0, .ref (xa x 38)), (1, .int (nI i)), (2, .int (nI j))] : List (Nat × Value)) = [(5, .int 0), (4, .int (nI k)), (3, .int (nI (cnt2 (fM false (M 42) (M 43) i j) (pn j) k + cntB ((fM false (M 42) (M 43) i j) k) 0))), (0, .ref (xa x 38)), (1, .int (nI i)), (2, .int (nI j))] from by rw [if_neg hne]; rfl))
  exact lp_5 ((pn i) - (0) + 1) (0) (by omega) (by omega)  _ _ hP hV ls (lv_sub hl [0, 1, 2, 3, 4] (show ([(4, .int 0), (3, .int 0), (0, .ref (xa x 38)), (1, .int (nI i)), (2, .int (nI j))] : List (Nat × Value)) = [(4, .int 0), (3, .int (nI (if i = j then 0 else cnt2 (fM false (M 42) (M 43) i j) (pn j) 0))), (0, .ref (xa x 38)), (1, .int (nI i)), (2, .int (nI j))] from by simp [cnt2] <;> rfl))
set_option maxHeartbeats 4000000 in
set_option maxRecDepth 100000 in
theorem c_X3_isWellNow (l : Launch) (x : Cx) (M : Nat → Nat → Int32) (cn gn dn : Nat) (pn : Nat → Nat) (i j : Nat) (hM : OkM M cn gn dn pn) (hi : i < cn) (hj : j < cn) : Met l yX3_isWellNow wsX3_isWellNow ({ frames := 5, cells := 0, slots := 0, locals := 130 }) (gP x M [.ref (xa x 38), .int (nI i), .int (nI j)]) (gQ x (some (.int (bI (wnM M pn i j)))) M) 0 0 (gF x) := by
  refine g_met (cc := cX3_isWellNow) (maxL := 8) (ret := some .boolean) (by decide) rfl (Nat.le_of_ble_eq_true rfl) ?_
  intro p e s m below meth c hx hb hr hml hts hown hlk hS hZ hP hV ls hl
  have hl : lv_has ls 8 [(0, .ref (xa x 38)), (1, .int (nI i)), (2, .int (nI j))] := hl
  have hw_f16 := hts (.fieldLink RX3 16 "CableOfficeModel" "counts" "[I") (by decide +kernel)
  have hinX3 : ∀ w ∈ wsX30, w ∈ wsX3_isWellNow := by decide +kernel
  have hc8 := hM.c8
  have hg5 := hM.g5
  have hd8 := hM.d8
  have h7i := hM.p7 hi
  have h7j := hM.p7 hj
  have hcr := crM_le (bb := false) (M := M) (i := i) (j := j) h7i.2 h7j.2
  refine lv_iconst (v := 0) hx hb dX3_isWellNow_0 (by decide) ?_
  refine lv_istore_n (lv' := [(3, .int 0), (0, .ref (xa x 38)), (1, .int (nI i)), (2, .int (nI j))]) hx hb dX3_isWellNow_1 rfl hl (by decide) rfl (fun ls hl => ?_)
  refine lv_iconst (v := 0) hx hb dX3_isWellNow_2 (by decide) ?_
  refine lv_istore (lv' := [(4, .int 0), (3, .int 0), (0, .ref (xa x 38)), (1, .int (nI i)), (2, .int (nI j))]) hx hb dX3_isWellNow_3 hl (by decide) rfl (fun ls hl => ?_)
  have lp_5 : ∀ (nn k : Nat), (pn i) - k < nn → k ≤ (pn i) → ∀ (H : Heap) (locs : List Loc), va_P (xD x) vwCl (wAll x M) H → va_S (gF x) s.heap H locs → ∀ ls : Array Slot, lv_has ls 8 [(4, .int (nI k)), (3, .int (nI (if i = j then 0 else cnt2 (fM true (M 42) (M 43) i j) (pn j) k))), (0, .ref (xa x 38)), (1, .int (nI i)), (2, .int (nI j))] → W p l e ({ frames := 5, cells := 0, slots := 0, locals := 130 }) s m ([.ref (xa x 38), .int (nI i), .int (nI j)] : List Value).toArray below meth c H locs 0 0 (MQ below (gQ x (some (.int (bI (wnM M pn i j)))) M) ([.ref (xa x 38), .int (nI i), .int (nI j)] : List Value).toArray s 0 0 (gF x)) (F0 m 5 ls []) := by
    intro nn
    induction nn with
    | zero => intro k hz; exact absurd hz (Nat.not_lt_zero _)
    | succ nn ih_5 =>
      intro k hf_5 hk_5  H locs hP hV ls hl
      have hcl : (if i = j then 0 else cnt2 (fM true (M 42) (M 43) i j) (pn j) k) ≤ 56 := crX_le h7i h7j hk_5
      refine lv_iload hx hb dX3_isWellNow_5 (lv_at hl 0 rfl) ?_
      refine lv_aload_n hx hb dX3_isWellNow_7 rfl (lv_at hl 2 rfl) ?_
      refine g_get (C := RX3) (T := TX3) (N := 22) (v := .ref (xa x 41)) hx hb hts hinX3 hown hS hP (id := 38) (by decide) rfl rfl 5 (by decide) hw_f16 rfl dX3_isWellNow_8 ?_
      refine lv_iload_n hx hb dX3_isWellNow_11 rfl (lv_at hl 3 rfl) ?_
      refine g_iald (j := i) hx hb hS hP (id := 41) (by omega) ((fun _ => rfl) _) (by decide) rfl (by omega) dX3_isWellNow_12 ?_
      rw [(hM.p (by omega))]
      refine lv_iconst (v := 1) hx hb dX3_isWellNow_13 (by decide) ?_
      refine h_isub (v := nI (pn i)) hx hb dX3_isWellNow_14 (h_sub (pn i) 1) ?_
      refine h_icmp_ge_n (a := k) (b := pn i) (tgt := 99) hx hb (by omega) (by omega) dX3_isWellNow_15 (by decide) (fun c_1 => ?_) (fun c_1 => ?_)
      · -- taken
        refine lv_iload_n hx hb dX3_isWellNow_99 rfl (lv_at hl 1 rfl) ?_
        refine h_if_le_n (a := if i = j then 0 else cnt2 (fM true (M 42) (M 43) i j) (pn j) k) (tgt := 117) hx hb (by omega) dX3_isWellNow_100 (by decide) (fun c_2 => ?_) (fun c_2 => ?_)
        · -- taken
          refine lv_iconst (v := 0) hx hb dX3_isWellNow_117 (by decide) ?_
          exact g_zret hx hb hr hlk hS hZ hP hV (Nat.le_of_ble_eq_true rfl) (Nat.le_of_ble_eq_true rfl) dX3_isWellNow_118 (by decide) (by have hs : (if i = j then 0 else cnt2 (fM true (M 42) (M 43) i j) (pn j) k) = crM true M pn i j := (by first | exact crX_eq (by omega) (by omega) | exact crX_i (by assumption)); (try rw [hs] at c_1); (try rw [hs] at c_2); simp [wnM, bI, c_1, c_2] <;> omega) (by rfl)
        · -- on
          refine lv_iload_n hx hb dX3_isWellNow_103 rfl (lv_at hl 1 rfl) ?_
          refine lv_aload_n hx hb dX3_isWellNow_104 rfl (lv_at hl 2 rfl) ?_
          refine lv_iload_n hx hb dX3_isWellNow_105 rfl (lv_at hl 3 rfl) ?_
          refine lv_iload_n hx hb dX3_isWellNow_106 rfl (lv_at hl 4 rfl) ?_
          refine g_call1 (va_runV (As := [.int (nI i), .int (nI j)]) (rest := [.int (nI (if i = j then 0 else cnt2 (fM true (M 42) (M 43) i j) (pn j) k))]) ⟨hx, hb, hml, hown, hts⟩ (c_X3_crossed l x M cn gn dn pn i j hM (by omega) (by omega)) (cwV 2 hts gX3_isWellNow_X3_crossed rfl rfl rfl (by decide +kernel) ⟨Nat.le_of_ble_eq_true rfl, Nat.le_of_ble_eq_true rfl⟩) (g_preV hS hZ hP hV [.int (nI i), .int (nI j)] (id := 38) (by decide) rfl rfl) rfl rfl hl.1 rfl (lv_room (Nat.le_of_ble_eq_true rfl)) dX3_isWellNow_107 ⟨Nat.le_of_ble_eq_true rfl, Nat.le_of_ble_eq_true rfl⟩) hV (fun H locs hP hV => ?_)
          refine h_icmp_ne_n (a := if i = j then 0 else cnt2 (fM true (M 42) (M 43) i j) (pn j) k) (b := crM false M pn i j) (tgt := 117) hx hb (by omega) (by omega) dX3_isWellNow_110 (by decide) (fun c_3 => ?_) (fun c_3 => ?_)
          · -- taken
            refine lv_iconst (v := 0) hx hb dX3_isWellNow_117 (by decide) ?_
            exact g_zret hx hb hr hlk hS hZ hP hV (Nat.le_of_ble_eq_true rfl) (Nat.le_of_ble_eq_true rfl) dX3_isWellNow_118 (by decide) (by have hs : (if i = j then 0 else cnt2 (fM true (M 42) (M 43) i j) (pn j) k) = crM true M pn i j := (by first | exact crX_eq (by omega) (by omega) | exact crX_i (by assumption)); (try rw [hs] at c_1); (try rw [hs] at c_2); (try rw [hs] at c_3); simp [wnM, bI, c_1, c_2, c_3] <;> omega) (by rfl)
          · -- on
            refine lv_iconst (v := 1) hx hb dX3_isWellNow_113 (by decide) ?_
            refine lv_goto (tgt := 118) hx hb dX3_isWellNow_114 (by decide) ?_
            exact g_zret hx hb hr hlk hS hZ hP hV (Nat.le_of_ble_eq_true rfl) (Nat.le_of_ble_eq_true rfl) dX3_isWellNow_118 (by decide) (by have hs : (if i = j then 0 else cnt2 (fM true (M 42) (M 43) i j) (pn j) k) = crM true M pn i j := (by first | exact crX_eq (by omega) (by omega) | exact crX_i (by assumption)); (try rw [hs] at c_1); (try rw [hs] at c_2); (try rw [hs] at c_3); simp [wnM, bI, c_1, c_2, c_3] <;> omega) (by rfl)
      · -- on
        refine lv_iload_n hx hb dX3_isWellNow_18 rfl (lv_at hl 3 rfl) ?_
        refine lv_iload_n hx hb dX3_isWellNow_19 rfl (lv_at hl 4 rfl) ?_
        refine h_icmp_eq_n (a := i) (b := j) (tgt := 99) hx hb (by omega) (by omega) dX3_isWellNow_20 (by decide) (fun c_4 => ?_) (fun c_4 => ?_)
        · -- taken
          refine lv_iload_n hx hb dX3_isWellNow_99 rfl (lv_at hl 1 rfl) ?_
          refine h_if_le_n (a := if i = j then 0 else cnt2 (fM true (M 42) (M 43) i j) (pn j) k) (tgt := 117) hx hb (by omega) dX3_isWellNow_100 (by decide) (fun c_5 => ?_) (fun c_5 => ?_)
          · -- taken
            refine lv_iconst (v := 0) hx hb dX3_isWellNow_117 (by decide) ?_
            exact g_zret hx hb hr hlk hS hZ hP hV (Nat.le_of_ble_eq_true rfl) (Nat.le_of_ble_eq_true rfl) dX3_isWellNow_118 (by decide) (by have hs : (if i = j then 0 else cnt2 (fM true (M 42) (M 43) i j) (pn j) k) = crM true M pn i j := (by first | exact crX_eq (by omega) (by omega) | exact crX_i (by assumption)); (try rw [hs] at c_1); (try rw [hs] at c_4); (try rw [hs] at c_5); simp [wnM, bI, c_1, c_5] <;> omega) (by rfl)
          · -- on
            refine lv_iload_n hx hb dX3_isWellNow_103 rfl (lv_at hl 1 rfl) ?_
            refine lv_aload_n hx hb dX3_isWellNow_104 rfl (lv_at hl 2 rfl) ?_
            refine lv_iload_n hx hb dX3_isWellNow_105 rfl (lv_at hl 3 rfl) ?_
            refine lv_iload_n hx hb dX3_isWellNow_106 rfl (lv_at hl 4 rfl) ?_
            refine g_call1 (va_runV (As := [.int (nI i), .int (nI j)]) (rest := [.int (nI (if i = j then 0 else cnt2 (fM true (M 42) (M 43) i j) (pn j) k))]) ⟨hx, hb, hml, hown, hts⟩ (c_X3_crossed l x M cn gn dn pn i j hM (by omega) (by omega)) (cwV 2 hts gX3_isWellNow_X3_crossed rfl rfl rfl (by decide +kernel) ⟨Nat.le_of_ble_eq_true rfl, Nat.le_of_ble_eq_true rfl⟩) (g_preV hS hZ hP hV [.int (nI i), .int (nI j)] (id := 38) (by decide) rfl rfl) rfl rfl hl.1 rfl (lv_room (Nat.le_of_ble_eq_true rfl)) dX3_isWellNow_107 ⟨Nat.le_of_ble_eq_true rfl, Nat.le_of_ble_eq_true rfl⟩) hV (fun H locs hP hV => ?_)
            refine h_icmp_ne_n (a := if i = j then 0 else cnt2 (fM true (M 42) (M 43) i j) (pn j) k) (b := crM false M pn i j) (tgt := 117) hx hb (by omega) (by omega) dX3_isWellNow_110 (by decide) (fun c_6 => ?_) (fun c_6 => ?_)
            · -- taken
              refine lv_iconst (v := 0) hx hb dX3_isWellNow_117 (by decide) ?_
              exact g_zret hx hb hr hlk hS hZ hP hV (Nat.le_of_ble_eq_true rfl) (Nat.le_of_ble_eq_true rfl) dX3_isWellNow_118 (by decide) (by have hs : (if i = j then 0 else cnt2 (fM true (M 42) (M 43) i j) (pn j) k) = crM true M pn i j := (by first | exact crX_eq (by omega) (by omega) | exact crX_i (by assumption)); (try rw [hs] at c_1); (try rw [hs] at c_4); (try rw [hs] at c_5); (try rw [hs] at c_6); simp [wnM, bI, c_1, c_5, c_6] <;> omega) (by rfl)
            · -- on
              refine lv_iconst (v := 1) hx hb dX3_isWellNow_113 (by decide) ?_
              refine lv_goto (tgt := 118) hx hb dX3_isWellNow_114 (by decide) ?_
              exact g_zret hx hb hr hlk hS hZ hP hV (Nat.le_of_ble_eq_true rfl) (Nat.le_of_ble_eq_true rfl) dX3_isWellNow_118 (by decide) (by have hs : (if i = j then 0 else cnt2 (fM true (M 42) (M 43) i j) (pn j) k) = crM true M pn i j := (by first | exact crX_eq (by omega) (by omega) | exact crX_i (by assumption)); (try rw [hs] at c_1); (try rw [hs] at c_4); (try rw [hs] at c_5); (try rw [hs] at c_6); simp [wnM, bI, c_1, c_5, c_6] <;> omega) (by rfl)
        · -- on
          have hne : ¬ i = j := c_4
          refine lv_iconst (v := 0) hx hb dX3_isWellNow_23 (by decide) ?_
          refine lv_istore (lv' := [(5, .int 0), (4, .int (nI k)), (3, .int (nI (if i = j then 0 else cnt2 (fM true (M 42) (M 43) i j) (pn j) k))), (0, .ref (xa x 38)), (1, .int (nI i)), (2, .int (nI j))]) hx hb dX3_isWellNow_24 hl (by decide) rfl (fun ls hl => ?_)
          have lp_26 : ∀ (nn t : Nat), (pn j) - t < nn → t ≤ (pn j) → ∀ (H : Heap) (locs : List Loc), va_P (xD x) vwCl (wAll x M) H → va_S (gF x) s.heap H locs → ∀ ls : Array Slot, lv_has ls 8 [(5, .int (nI t)), (4, .int (nI k)), (3, .int (nI (cnt2 (fM true (M 42) (M 43) i j) (pn j) k + cntB ((fM true (M 42) (M 43) i j) k) t))), (0, .ref (xa x 38)), (1, .int (nI i)), (2, .int (nI j))] → W p l e ({ frames := 5, cells := 0, slots := 0, locals := 130 }) s m ([.ref (xa x 38), .int (nI i), .int (nI j)] : List Value).toArray below meth c H locs 0 0 (MQ below (gQ x (some (.int (bI (wnM M pn i j)))) M) ([.ref (xa x 38), .int (nI i), .int (nI j)] : List Value).toArray s 0 0 (gF x)) (F0 m 26 ls []) := by
            intro nn
            induction nn with
            | zero => intro t hz; exact absurd hz (Nat.not_lt_zero _)
            | succ nn ih_26 =>
              intro t hf_26 hk_26  H locs hP hV ls hl
              have hcb := cntB_le ((fM true (M 42) (M 43) i j) k) t
              refine lv_iload hx hb dX3_isWellNow_26 (lv_at hl 0 rfl) ?_
              refine lv_aload_n hx hb dX3_isWellNow_28 rfl (lv_at hl 3 rfl) ?_
              refine g_get (C := RX3) (T := TX3) (N := 22) (v := .ref (xa x 41)) hx hb hts hinX3 hown hS hP (id := 38) (by decide) rfl rfl 5 (by decide) hw_f16 rfl dX3_isWellNow_29 ?_
              refine lv_iload_n hx hb dX3_isWellNow_32 rfl (lv_at hl 5 rfl) ?_
              refine g_iald (j := j) hx hb hS hP (id := 41) (by omega) ((fun _ => rfl) _) (by decide) rfl (by omega) dX3_isWellNow_33 ?_
              rw [(hM.p (by omega))]
              refine lv_iconst (v := 1) hx hb dX3_isWellNow_34 (by decide) ?_
              refine h_isub (v := nI (pn j)) hx hb dX3_isWellNow_35 (h_sub (pn j) 1) ?_
              refine h_icmp_ge_n (a := t) (b := pn j) (tgt := 93) hx hb (by omega) (by omega) dX3_isWellNow_36 (by decide) (fun c_7 => ?_) (fun c_7 => ?_)
              · -- taken
                refine lv_iinc (v := nI (k + 1)) (lv' := [(4, .int (nI (k + 1))), (5, .int (nI t)), (3, .int (nI (cnt2 (fM true (M 42) (M 43) i j) (pn j) k + cntB ((fM true (M 42) (M 43) i j) k) t))), (0, .ref (xa x 38)), (1, .int (nI i)), (2, .int (nI j))]) hx hb dX3_isWellNow_93 hl (k := 1) rfl (nI_add (k) 1) (by decide) rfl (fun ls hl => ?_)
                refine lv_goto (tgt := 5) hx hb dX3_isWellNow_96 (by decide) ?_
                exact ih_5 (k + 1) (by omega) (by omega)  _ _ hP hV ls (lv_sub hl [0, 2, 3, 4, 5] (show ([(4, .int (nI (k + 1))), (3, .int (nI (cnt2 (fM true (M 42) (M 43) i j) (pn j) k + cntB ((fM true (M 42) (M 43) i j) k) t))), (0, .ref (xa x 38)), (1, .int (nI i)), (2, .int (nI j))] : List (Nat × Value)) = [(4, .int (nI (k + 1))), (3, .int (nI (if i = j then 0 else cnt2 (fM true (M 42) (M 43) i j) (pn j) (k + 1)))), (0, .ref (xa x 38)), (1, .int (nI i)), (2, .int (nI j))] from by rw [if_neg hne, show t = pn j by omega]; rfl))
              · -- on
                refine lv_bipush (v := 8) hx hb dX3_isWellNow_39 (by decide) ?_
                refine lv_iload_n hx hb dX3_isWellNow_41 rfl (lv_at hl 4 rfl) ?_
                refine h_imul (v := nI (8 * i)) hx hb dX3_isWellNow_42 (pk_mul (8) (i)) ?_
                refine lv_iload hx hb dX3_isWellNow_43 (lv_at hl 1 rfl) ?_
                refine h_iadd (v := nI (8 * i + k)) hx hb dX3_isWellNow_45 (nI_add (8 * i) (k)) ?_
                refine lv_istore (lv' := [(6, .int (nI (8 * i + k))), (5, .int (nI t)), (4, .int (nI k)), (3, .int (nI (cnt2 (fM true (M 42) (M 43) i j) (pn j) k + cntB ((fM true (M 42) (M 43) i j) k) t))), (0, .ref (xa x 38)), (1, .int (nI i)), (2, .int (nI j))]) hx hb dX3_isWellNow_46 hl (by decide) rfl (fun ls hl => ?_)
                refine lv_bipush (v := 8) hx hb dX3_isWellNow_48 (by decide) ?_
                refine lv_iload_n hx hb dX3_isWellNow_50 rfl (lv_at hl 6 rfl) ?_
                refine h_imul (v := nI (8 * j)) hx hb dX3_isWellNow_51 (pk_mul (8) (j)) ?_
                refine lv_iload hx hb dX3_isWellNow_52 (lv_at hl 1 rfl) ?_
                refine h_iadd (v := nI (8 * j + t)) hx hb dX3_isWellNow_54 (nI_add (8 * j) (t)) ?_
                refine lv_istore (lv' := [(7, .int (nI (8 * j + t))), (6, .int (nI (8 * i + k))), (5, .int (nI t)), (4, .int (nI k)), (3, .int (nI (cnt2 (fM true (M 42) (M 43) i j) (pn j) k + cntB ((fM true (M 42) (M 43) i j) k) t))), (0, .ref (xa x 38)), (1, .int (nI i)), (2, .int (nI j))]) hx hb dX3_isWellNow_55 hl (by decide) rfl (fun ls hl => ?_)
                refine lv_iload_n hx hb dX3_isWellNow_57 rfl (lv_at hl 4 rfl) ?_
                refine lv_aload_n hx hb dX3_isWellNow_58 rfl (lv_at hl 5 rfl) ?_
                refine lv_iload hx hb dX3_isWellNow_59 (lv_at hl 1 rfl) ?_
                refine lv_iload hx hb dX3_isWellNow_61 (lv_at hl 0 rfl) ?_
                refine g_call1 (va_runV (As := [.int (nI (8 * i + k)), .int (nI (8 * j + t))]) (rest := [.int (nI (cnt2 (fM true (M 42) (M 43) i j) (pn j) k + cntB ((fM true (M 42) (M 43) i j) k) t))]) ⟨hx, hb, hml, hown, hts⟩ (c_X3_doCross l x M (8 * i + k) (8 * j + t) (by omega) (by omega)) (cwV 2 hts gX3_isWellNow_X3_doCross rfl rfl rfl (by decide +kernel) ⟨Nat.le_of_ble_eq_true rfl, Nat.le_of_ble_eq_true rfl⟩) (g_preV hS hZ hP hV [.int (nI (8 * i + k)), .int (nI (8 * j + t))] (id := 38) (by decide) rfl rfl) rfl rfl hl.1 rfl (lv_room (Nat.le_of_ble_eq_true rfl)) dX3_isWellNow_63 ⟨Nat.le_of_ble_eq_true rfl, Nat.le_of_ble_eq_true rfl⟩) hV (fun H locs hP hV => ?_)
                refine h_if_eq_b (tgt := 84) hx hb dX3_isWellNow_66 (by decide) (fun c_8 => ?_) (fun c_8 => ?_)
                · -- taken
                  refine lv_iconst (v := 0) hx hb dX3_isWellNow_84 (by decide) ?_
                  refine h_iadd (v := nI (cnt2 (fM true (M 42) (M 43) i j) (pn j) k + cntB ((fM true (M 42) (M 43) i j) k) t)) hx hb dX3_isWellNow_85 (by exact Int32.add_zero _) ?_
                  refine lv_istore_n (lv' := [(3, .int (nI (cnt2 (fM true (M 42) (M 43) i j) (pn j) k + cntB ((fM true (M 42) (M 43) i j) k) t))), (7, .int (nI (8 * j + t))), (6, .int (nI (8 * i + k))), (5, .int (nI t)), (4, .int (nI k)), (0, .ref (xa x 38)), (1, .int (nI i)), (2, .int (nI j))]) hx hb dX3_isWellNow_86 rfl hl (by decide) rfl (fun ls hl => ?_)
                  refine lv_iinc (v := nI (t + 1)) (lv' := [(5, .int (nI (t + 1))), (3, .int (nI (cnt2 (fM true (M 42) (M 43) i j) (pn j) k + cntB ((fM true (M 42) (M 43) i j) k) t))), (7, .int (nI (8 * j + t))), (6, .int (nI (8 * i + k))), (4, .int (nI k)), (0, .ref (xa x 38)), (1, .int (nI i)), (2, .int (nI j))]) hx hb dX3_isWellNow_87 hl (k := 3) rfl (nI_add (t) 1) (by decide) rfl (fun ls hl => ?_)
                  refine lv_goto (tgt := 26) hx hb dX3_isWellNow_90 (by decide) ?_
                  exact ih_26 (t + 1) (by omega) (by omega)  _ _ hP hV ls (lv_sub hl [0, 4, 1, 5, 6, 7] (show ([(5, .int (nI (t + 1))), (4, .int (nI k)), (3, .int (nI (cnt2 (fM true (M 42) (M 43) i j) (pn j) k + cntB ((fM true (M 42) (M 43) i j) k) t))), (0, .ref (xa x 38)), (1, .int (nI i)), (2, .int (nI j))] : List (Nat × Value)) = [(5, .int (nI (t + 1))), (4, .int (nI k)), (3, .int (nI (cnt2 (fM true (M 42) (M 43) i j) (pn j) k + cntB ((fM true (M 42) (M 43) i j) k) (t + 1)))), (0, .ref (xa x 38)), (1, .int (nI i)), (2, .int (nI j))] from by have hv : ((fM true (M 42) (M 43) i j) k) t = false := (by simp [fM, c_1, c_4, c_7, c_8] <;> omega); rw [cntB_f (f := ((fM true (M 42) (M 43) i j) k)) (t := t) hv]; try rfl))
                · -- on
                  refine lv_aload_n hx hb dX3_isWellNow_69 rfl (lv_at hl 5 rfl) ?_
                  refine lv_iload hx hb dX3_isWellNow_70 (lv_at hl 1 rfl) ?_
                  refine lv_iload hx hb dX3_isWellNow_72 (lv_at hl 0 rfl) ?_
                  refine g_call1 (va_runV (As := [.int (nI (8 * i + k)), .int (nI (8 * j + t))]) (rest := [.int (nI (cnt2 (fM true (M 42) (M 43) i j) (pn j) k + cntB ((fM true (M 42) (M 43) i j) k) t))]) ⟨hx, hb, hml, hown, hts⟩ (c_X3_isSteep l x M (8 * i + k) (8 * j + t) (by omega) (by omega)) (cwV 2 hts gX3_isWellNow_X3_isSteep rfl rfl rfl (by decide +kernel) ⟨Nat.le_of_ble_eq_true rfl, Nat.le_of_ble_eq_true rfl⟩) (g_preV hS hZ hP hV [.int (nI (8 * i + k)), .int (nI (8 * j + t))] (id := 38) (by decide) rfl rfl) rfl rfl hl.1 rfl (lv_room (Nat.le_of_ble_eq_true rfl)) dX3_isWellNow_74 ⟨Nat.le_of_ble_eq_true rfl, Nat.le_of_ble_eq_true rfl⟩) hV (fun H locs hP hV => ?_)
                  refine h_if_eq_b (tgt := 84) hx hb dX3_isWellNow_77 (by decide) (fun c_9 => ?_) (fun c_9 => ?_)
                  · -- taken
                    refine lv_iconst (v := 0) hx hb dX3_isWellNow_84 (by decide) ?_
                    refine h_iadd (v := nI (cnt2 (fM true (M 42) (M 43) i j) (pn j) k + cntB ((fM true (M 42) (M 43) i j) k) t)) hx hb dX3_isWellNow_85 (by exact Int32.add_zero _) ?_
                    refine lv_istore_n (lv' := [(3, .int (nI (cnt2 (fM true (M 42) (M 43) i j) (pn j) k + cntB ((fM true (M 42) (M 43) i j) k) t))), (7, .int (nI (8 * j + t))), (6, .int (nI (8 * i + k))), (5, .int (nI t)), (4, .int (nI k)), (0, .ref (xa x 38)), (1, .int (nI i)), (2, .int (nI j))]) hx hb dX3_isWellNow_86 rfl hl (by decide) rfl (fun ls hl => ?_)
                    refine lv_iinc (v := nI (t + 1)) (lv' := [(5, .int (nI (t + 1))), (3, .int (nI (cnt2 (fM true (M 42) (M 43) i j) (pn j) k + cntB ((fM true (M 42) (M 43) i j) k) t))), (7, .int (nI (8 * j + t))), (6, .int (nI (8 * i + k))), (4, .int (nI k)), (0, .ref (xa x 38)), (1, .int (nI i)), (2, .int (nI j))]) hx hb dX3_isWellNow_87 hl (k := 3) rfl (nI_add (t) 1) (by decide) rfl (fun ls hl => ?_)
                    refine lv_goto (tgt := 26) hx hb dX3_isWellNow_90 (by decide) ?_
                    exact ih_26 (t + 1) (by omega) (by omega)  _ _ hP hV ls (lv_sub hl [0, 4, 1, 5, 6, 7] (show ([(5, .int (nI (t + 1))), (4, .int (nI k)), (3, .int (nI (cnt2 (fM true (M 42) (M 43) i j) (pn j) k + cntB ((fM true (M 42) (M 43) i j) k) t))), (0, .ref (xa x 38)), (1, .int (nI i)), (2, .int (nI j))] : List (Nat × Value)) = [(5, .int (nI (t + 1))), (4, .int (nI k)), (3, .int (nI (cnt2 (fM true (M 42) (M 43) i j) (pn j) k + cntB ((fM true (M 42) (M 43) i j) k) (t + 1)))), (0, .ref (xa x 38)), (1, .int (nI i)), (2, .int (nI j))] from by have hv : ((fM true (M 42) (M 43) i j) k) t = false := (by simp [fM, c_1, c_4, c_7, c_8, c_9] <;> omega); rw [cntB_f (f := ((fM true (M 42) (M 43) i j) k)) (t := t) hv]; try rfl))
                  · -- on
                    refine lv_iconst (v := 1) hx hb dX3_isWellNow_80 (by decide) ?_
                    refine lv_goto (tgt := 85) hx hb dX3_isWellNow_81 (by decide) ?_
                    refine h_iadd (v := nI ((cnt2 (fM true (M 42) (M 43) i j) (pn j) k + cntB ((fM true (M 42) (M 43) i j) k) t) + 1)) hx hb dX3_isWellNow_85 (nI_add (cnt2 (fM true (M 42) (M 43) i j) (pn j) k + cntB ((fM true (M 42) (M 43) i j) k) t) 1) ?_
                    refine lv_istore_n (lv' := [(3, .int (nI ((cnt2 (fM true (M 42) (M 43) i j) (pn j) k + cntB ((fM true (M 42) (M 43) i j) k) t) + 1))), (7, .int (nI (8 * j + t))), (6, .int (nI (8 * i + k))), (5, .int (nI t)), (4, .int (nI k)), (0, .ref (xa x 38)), (1, .int (nI i)), (2, .int (nI j))]) hx hb dX3_isWellNow_86 rfl hl (by decide) rfl (fun ls hl => ?_)
                    refine lv_iinc (v := nI (t + 1)) (lv' := [(5, .int (nI (t + 1))), (3, .int (nI ((cnt2 (fM true (M 42) (M 43) i j) (pn j) k + cntB ((fM true (M 42) (M 43) i j) k) t) + 1))), (7, .int (nI (8 * j + t))), (6, .int (nI (8 * i + k))), (4, .int (nI k)), (0, .ref (xa x 38)), (1, .int (nI i)), (2, .int (nI j))]) hx hb dX3_isWellNow_87 hl (k := 3) rfl (nI_add (t) 1) (by decide) rfl (fun ls hl => ?_)
                    refine lv_goto (tgt := 26) hx hb dX3_isWellNow_90 (by decide) ?_
                    exact ih_26 (t + 1) (by omega) (by omega)  _ _ hP hV ls (lv_sub hl [0, 4, 1, 5, 6, 7] (show ([(5, .int (nI (t + 1))), (4, .int (nI k)), (3, .int (nI ((cnt2 (fM true (M 42) (M 43) i j) (pn j) k + cntB ((fM true (M 42) (M 43) i j) k) t) + 1))), (0, .ref (xa x 38)), (1, .int (nI i)), (2, .int (nI j))] : List (Nat × Value)) = [(5, .int (nI (t + 1))), (4, .int (nI k)), (3, .int (nI (cnt2 (fM true (M 42) (M 43) i j) (pn j) k + cntB ((fM true (M 42) (M 43) i j) k) (t + 1)))), (0, .ref (xa x 38)), (1, .int (nI i)), (2, .int (nI j))] from by have hv : ((fM true (M 42) (M 43) i j) k) t = true := (by simp [fM, c_1, c_4, c_7, c_8, c_9] <;> omega); rw [cntB_t (f := ((fM true (M 42) (M 43) i j) k)) (t := t) hv]; try rfl))
          exact lp_26 ((pn j) - (0) + 1) (0) (by omega) (by omega)  _ _ hP hV ls (lv_sub hl [0, 1, 2, 3, 4, 5] (show ([(5, .int 0), (4, .int (nI k)), (3, .int (nI (if i = j then 0 else cnt2 (fM true (M 42) (M 43) i j) (pn j) k))), (0, .ref (xa x 38)), (1, .int (nI i)), (2, .int (nI j))] : List (Nat × Value)) = [(5, .int 0), (4, .int (nI k)), (3, .int (nI (cnt2 (fM true (M 42) (M 43) i j) (pn j) k + cntB ((fM true (M 42) (M 43) i j) k) 0))), (0, .ref (xa x 38)), (1, .int (nI i)), (2, .int (nI j))] from by rw [if_neg hne]; rfl))
  exact lp_5 ((pn i) - (0) + 1) (0) (by omega) (by omega)  _ _ hP hV ls (lv_sub hl [0, 1, 2, 3, 4] (show ([(4, .int 0), (3, .int 0), (0, .ref (xa x 38)), (1, .int (nI i)), (2, .int (nI j))] : List (Nat × Value)) = [(4, .int 0), (3, .int (nI (if i = j then 0 else cnt2 (fM true (M 42) (M 43) i j) (pn j) 0))), (0, .ref (xa x 38)), (1, .int (nI i)), (2, .int (nI j))] from by simp [cnt2] <;> rfl))
set_option maxHeartbeats 4000000 in
set_option maxRecDepth 100000 in
theorem c_X3_isBare (l : Launch) (x : Cx) (M : Nat → Nat → Int32) (cn gn dn : Nat) (pn : Nat → Nat) (i j : Nat) (hM : OkM M cn gn dn pn) (hi : i < cn) (hj : j < cn) : Met l yX3_isBare wsX3_isBare ({ frames := 5, cells := 0, slots := 0, locals := 130 }) (gP x M [.ref (xa x 38), .int (nI i), .int (nI j)]) (gQ x (some (.int (bI (brM M pn i j)))) M) 0 0 (gF x) := by
  refine g_met (cc := cX3_isBare) (maxL := 3) (ret := some .boolean) (by decide) rfl (Nat.le_of_ble_eq_true rfl) ?_
  intro p e s m below meth c hx hb hr hml hts hown hlk hS hZ hP hV ls hl
  have hl : lv_has ls 3 [(0, .ref (xa x 38)), (1, .int (nI i)), (2, .int (nI j))] := hl
  have hw_f25 := hts (.fieldLink RX3 25 "CableOfficeModel" "areAgreed" "[Z") (by decide +kernel)
  have hinX3 : ∀ w ∈ wsX30, w ∈ wsX3_isBare := by decide +kernel
  have hc8 := hM.c8
  have hg5 := hM.g5
  have hd8 := hM.d8
  have h7i := hM.p7 hi
  have h7j := hM.p7 hj
  have hcr := crM_le (bb := false) (M := M) h7i.2 h7j.2
  refine lv_aload_n hx hb dX3_isBare_0 rfl (lv_at hl 0 rfl) ?_
  refine g_get (C := RX3) (T := TX3) (N := 22) (v := .ref (xa x 44)) hx hb hts hinX3 hown hS hP (id := 38) (by decide) rfl rfl 8 (by decide) hw_f25 rfl dX3_isBare_1 ?_
  refine lv_bipush (v := 8) hx hb dX3_isBare_4 (by decide) ?_
  refine lv_iload_n hx hb dX3_isBare_6 rfl (lv_at hl 1 rfl) ?_
  refine h_imul (v := nI (8 * i)) hx hb dX3_isBare_7 (pk_mul (8) (i)) ?_
  refine lv_iload_n hx hb dX3_isBare_8 rfl (lv_at hl 2 rfl) ?_
  refine h_iadd (v := nI (8 * i + j)) hx hb dX3_isBare_9 (nI_add (8 * i) (j)) ?_
  refine g_zald (j := 8 * i + j) hx hb hS hP (id := 44) (by omega) ((fun _ => rfl) _) (by decide) rfl (by omega) dX3_isBare_10 ?_
  refine lv_if_ne (tgt := 27) hx hb dX3_isBare_11 (by decide) (fun c_1 => ?_) (fun c_1 => ?_)
  · -- taken
    refine lv_iconst (v := 0) hx hb dX3_isBare_27 (by decide) ?_
    exact g_zret hx hb hr hlk hS hZ hP hV (Nat.le_of_ble_eq_true rfl) (Nat.le_of_ble_eq_true rfl) dX3_isBare_28 (by decide) (by simp [brM, bI, c_1] <;> omega) (by rfl)
  · -- on
    refine lv_aload_n hx hb dX3_isBare_14 rfl (lv_at hl 0 rfl) ?_
    refine lv_iload_n hx hb dX3_isBare_15 rfl (lv_at hl 1 rfl) ?_
    refine lv_iload_n hx hb dX3_isBare_16 rfl (lv_at hl 2 rfl) ?_
    refine g_call1 (va_runV (As := [.int (nI i), .int (nI j)]) (rest := []) ⟨hx, hb, hml, hown, hts⟩ (c_X3_crossed l x M cn gn dn pn i j hM (by omega) (by omega)) (cwV 2 hts gX3_isBare_X3_crossed rfl rfl rfl (by decide +kernel) ⟨Nat.le_of_ble_eq_true rfl, Nat.le_of_ble_eq_true rfl⟩) (g_preV hS hZ hP hV [.int (nI i), .int (nI j)] (id := 38) (by decide) rfl rfl) rfl rfl hl.1 rfl (lv_room (Nat.le_of_ble_eq_true rfl)) dX3_isBare_17 ⟨Nat.le_of_ble_eq_true rfl, Nat.le_of_ble_eq_true rfl⟩) hV (fun H locs hP hV => ?_)
    refine h_if_le_n (a := crM false M pn i j) (tgt := 27) hx hb (by omega) dX3_isBare_20 (by decide) (fun c_2 => ?_) (fun c_2 => ?_)
    · -- taken
      refine lv_iconst (v := 0) hx hb dX3_isBare_27 (by decide) ?_
      exact g_zret hx hb hr hlk hS hZ hP hV (Nat.le_of_ble_eq_true rfl) (Nat.le_of_ble_eq_true rfl) dX3_isBare_28 (by decide) (by simp [brM, bI, c_1, c_2] <;> omega) (by rfl)
    · -- on
      refine lv_iconst (v := 1) hx hb dX3_isBare_23 (by decide) ?_
      refine lv_goto (tgt := 28) hx hb dX3_isBare_24 (by decide) ?_
      exact g_zret hx hb hr hlk hS hZ hP hV (Nat.le_of_ble_eq_true rfl) (Nat.le_of_ble_eq_true rfl) dX3_isBare_28 (by decide) (by simp [brM, bI, c_1, c_2] <;> omega) (by rfl)
set_option maxHeartbeats 4000000 in
set_option maxRecDepth 100000 in
theorem c_X3_bareNow (l : Launch) (x : Cx) (M : Nat → Nat → Int32) (cn gn dn : Nat) (pn : Nat → Nat) (hM : OkM M cn gn dn pn) : Met l yX3_bareNow wsX3_bareNow ({ frames := 6, cells := 0, slots := 0, locals := 152 }) (gP x M [.ref (xa x 38)]) (gQ x (some (.int (nI (bnM M pn cn)))) M) 0 0 (gF x) := by
  refine g_met (cc := cX3_bareNow) (maxL := 3) (ret := some .int) (by decide) rfl (Nat.le_of_ble_eq_true rfl) ?_
  intro p e s m below meth c hx hb hr hml hts hown hlk hS hZ hP hV ls hl
  have hl : lv_has ls 3 [(0, .ref (xa x 38))] := hl
  have hw_f70 := hts (.fieldLink RX3 70 "CableOfficeModel" "cables" "I") (by decide +kernel)
  have hinX3 : ∀ w ∈ wsX30, w ∈ wsX3_bareNow := by decide +kernel
  have hc8 := hM.c8
  have hg5 := hM.g5
  have hd8 := hM.d8
  have hcc : cn * cn ≤ 64 := Nat.mul_le_mul hc8 hc8
  refine lv_iconst (v := 0) hx hb dX3_bareNow_0 (by decide) ?_
  refine lv_istore_n (lv' := [(1, .int 0), (0, .ref (xa x 38))]) hx hb dX3_bareNow_1 rfl hl (by decide) rfl (fun ls hl => ?_)
  refine lv_iconst (v := 0) hx hb dX3_bareNow_2 (by decide) ?_
  refine lv_istore_n (lv' := [(2, .int 0), (1, .int 0), (0, .ref (xa x 38))]) hx hb dX3_bareNow_3 rfl hl (by decide) rfl (fun ls hl => ?_)
  have lp_4 : ∀ (nn k : Nat), (cn * cn) - k < nn → k ≤ (cn * cn) → ∀ (H : Heap) (locs : List Loc), va_P (xD x) vwCl (wAll x M) H → va_S (gF x) s.heap H locs → ∀ ls : Array Slot, lv_has ls 3 [(2, .int (nI k)), (1, .int (nI (cntB (fun k => decide (k / cn < k % cn) && brM M pn (k / cn) (k % cn)) k))), (0, .ref (xa x 38))] → W p l e ({ frames := 6, cells := 0, slots := 0, locals := 152 }) s m ([.ref (xa x 38)] : List Value).toArray below meth c H locs 0 0 (MQ below (gQ x (some (.int (nI (bnM M pn cn)))) M) ([.ref (xa x 38)] : List Value).toArray s 0 0 (gF x)) (F0 m 4 ls []) := by
    intro nn
    induction nn with
    | zero => intro k hz; exact absurd hz (Nat.not_lt_zero _)
    | succ nn ih_4 =>
      intro k hf_4 hk_4  H locs hP hV ls hl
      have hcb := cntB_le (fun k => decide (k / cn < k % cn) && brM M pn (k / cn) (k % cn)) k
      have hcc : cn * cn ≤ 64 := Nat.mul_le_mul hc8 hc8
      refine lv_iload_n hx hb dX3_bareNow_4 rfl (lv_at hl 0 rfl) ?_
      refine lv_aload_n hx hb dX3_bareNow_5 rfl (lv_at hl 2 rfl) ?_
      refine g_get (C := RX3) (T := TX3) (N := 22) (v := .int (nI cn)) hx hb hts hinX3 hown hS hP (id := 38) (by decide) rfl rfl 4 (by decide) hw_f70 (congrArg (fun z => some (Value.int z)) hM.c) dX3_bareNow_6 ?_
      refine lv_aload_n hx hb dX3_bareNow_9 rfl (lv_at hl 2 rfl) ?_
      refine g_get (C := RX3) (T := TX3) (N := 22) (v := .int (nI cn)) hx hb hts hinX3 hown hS hP (id := 38) (by decide) rfl rfl 4 (by decide) hw_f70 (congrArg (fun z => some (Value.int z)) hM.c) dX3_bareNow_10 ?_
      refine h_imul (v := nI (cn * cn)) hx hb dX3_bareNow_13 (pk_mul (cn) (cn)) ?_
      refine h_icmp_ge_n (a := k) (b := cn * cn) (tgt := 65) hx hb (by omega) (by omega) dX3_bareNow_14 (by decide) (fun c_1 => ?_) (fun c_1 => ?_)
      · -- taken
        refine lv_iload_n hx hb dX3_bareNow_65 rfl (lv_at hl 1 rfl) ?_
        exact g_iret hx hb hr hlk hS hZ hP hV (Nat.le_of_ble_eq_true rfl) (Nat.le_of_ble_eq_true rfl) dX3_bareNow_66 (by rw [show k = cn * cn by omega]; rfl) (by rfl)
      · -- on
        have hc0 : 0 < cn := Nat.pos_of_ne_zero (fun z => by subst z; omega)
        have hd1 : k / cn < cn := Nat.div_lt_of_lt_mul (by omega)
        have hd2 : k % cn < cn := Nat.mod_lt _ hc0
        refine lv_iload_n hx hb dX3_bareNow_17 rfl (lv_at hl 1 rfl) ?_
        refine lv_iload_n hx hb dX3_bareNow_18 rfl (lv_at hl 0 rfl) ?_
        refine lv_aload_n hx hb dX3_bareNow_19 rfl (lv_at hl 2 rfl) ?_
        refine g_get (C := RX3) (T := TX3) (N := 22) (v := .int (nI cn)) hx hb hts hinX3 hown hS hP (id := 38) (by decide) rfl rfl 4 (by decide) hw_f70 (congrArg (fun z => some (Value.int z)) hM.c) dX3_bareNow_20 ?_
        refine h_idiv (v := nI (k / cn)) hx hb dX3_bareNow_23 (h_div (a := k) (d := cn) (by omega) (by omega) (by omega)).1 (h_div (a := k) (d := cn) (by omega) (by omega) (by omega)).2.1 ?_
        refine lv_iload_n hx hb dX3_bareNow_24 rfl (lv_at hl 0 rfl) ?_
        refine lv_aload_n hx hb dX3_bareNow_25 rfl (lv_at hl 2 rfl) ?_
        refine g_get (C := RX3) (T := TX3) (N := 22) (v := .int (nI cn)) hx hb hts hinX3 hown hS hP (id := 38) (by decide) rfl rfl 4 (by decide) hw_f70 (congrArg (fun z => some (Value.int z)) hM.c) dX3_bareNow_26 ?_
        refine h_irem (v := nI (k % cn)) hx hb dX3_bareNow_29 (h_div (a := k) (d := cn) (by omega) (by omega) (by omega)).1 (h_div (a := k) (d := cn) (by omega) (by omega) (by omega)).2.2 ?_
        refine h_icmp_ge_n (a := k / cn) (b := k % cn) (tgt := 56) hx hb (by omega) (by omega) dX3_bareNow_30 (by decide) (fun c_2 => ?_) (fun c_2 => ?_)
        · -- taken
          refine lv_iconst (v := 0) hx hb dX3_bareNow_56 (by decide) ?_
          refine h_iadd (v := nI (cntB (fun k => decide (k / cn < k % cn) && brM M pn (k / cn) (k % cn)) k)) hx hb dX3_bareNow_57 (by exact Int32.add_zero _) ?_
          refine lv_istore_n (lv' := [(1, .int (nI (cntB (fun k => decide (k / cn < k % cn) && brM M pn (k / cn) (k % cn)) k))), (2, .int (nI k)), (0, .ref (xa x 38))]) hx hb dX3_bareNow_58 rfl hl (by decide) rfl (fun ls hl => ?_)
          refine lv_iinc (v := nI (k + 1)) (lv' := [(2, .int (nI (k + 1))), (1, .int (nI (cntB (fun k => decide (k / cn < k % cn) && brM M pn (k / cn) (k % cn)) k))), (0, .ref (xa x 38))]) hx hb dX3_bareNow_59 hl (k := 1) rfl (nI_add (k) 1) (by decide) rfl (fun ls hl => ?_)
          refine lv_goto (tgt := 4) hx hb dX3_bareNow_62 (by decide) ?_
          exact ih_4 (k + 1) (by omega) (by omega)  _ _ hP hV ls (lv_sub hl [0, 1, 2] (show ([(2, .int (nI (k + 1))), (1, .int (nI (cntB (fun k => decide (k / cn < k % cn) && brM M pn (k / cn) (k % cn)) k))), (0, .ref (xa x 38))] : List (Nat × Value)) = [(2, .int (nI (k + 1))), (1, .int (nI (cntB (fun k => decide (k / cn < k % cn) && brM M pn (k / cn) (k % cn)) (k + 1)))), (0, .ref (xa x 38))] from by have hv : (fun k => decide (k / cn < k % cn) && brM M pn (k / cn) (k % cn)) k = false := (by simp [c_1, c_2] <;> omega); rw [cntB_f (f := (fun k => decide (k / cn < k % cn) && brM M pn (k / cn) (k % cn))) (t := k) hv]; try rfl))
        · -- on
          refine lv_aload_n hx hb dX3_bareNow_33 rfl (lv_at hl 2 rfl) ?_
          refine lv_iload_n hx hb dX3_bareNow_34 rfl (lv_at hl 0 rfl) ?_
          refine lv_aload_n hx hb dX3_bareNow_35 rfl (lv_at hl 2 rfl) ?_
          refine g_get (C := RX3) (T := TX3) (N := 22) (v := .int (nI cn)) hx hb hts hinX3 hown hS hP (id := 38) (by decide) rfl rfl 4 (by decide) hw_f70 (congrArg (fun z => some (Value.int z)) hM.c) dX3_bareNow_36 ?_
          refine h_idiv (v := nI (k / cn)) hx hb dX3_bareNow_39 (h_div (a := k) (d := cn) (by omega) (by omega) (by omega)).1 (h_div (a := k) (d := cn) (by omega) (by omega) (by omega)).2.1 ?_
          refine lv_iload_n hx hb dX3_bareNow_40 rfl (lv_at hl 0 rfl) ?_
          refine lv_aload_n hx hb dX3_bareNow_41 rfl (lv_at hl 2 rfl) ?_
          refine g_get (C := RX3) (T := TX3) (N := 22) (v := .int (nI cn)) hx hb hts hinX3 hown hS hP (id := 38) (by decide) rfl rfl 4 (by decide) hw_f70 (congrArg (fun z => some (Value.int z)) hM.c) dX3_bareNow_42 ?_
          refine h_irem (v := nI (k % cn)) hx hb dX3_bareNow_45 (h_div (a := k) (d := cn) (by omega) (by omega) (by omega)).1 (h_div (a := k) (d := cn) (by omega) (by omega) (by omega)).2.2 ?_
          refine g_call1 (va_runV (As := [.int (nI (k / cn)), .int (nI (k % cn))]) (rest := [.int (nI (cntB (fun k => decide (k / cn < k % cn) && brM M pn (k / cn) (k % cn)) k))]) ⟨hx, hb, hml, hown, hts⟩ (c_X3_isBare l x M cn gn dn pn (k / cn) (k % cn) hM (by omega) (by omega)) (cwV 2 hts gX3_bareNow_X3_isBare rfl rfl rfl (by decide +kernel) ⟨Nat.le_of_ble_eq_true rfl, Nat.le_of_ble_eq_true rfl⟩) (g_preV hS hZ hP hV [.int (nI (k / cn)), .int (nI (k % cn))] (id := 38) (by decide) rfl rfl) rfl rfl hl.1 rfl (lv_room (Nat.le_of_ble_eq_true rfl)) dX3_bareNow_46 ⟨Nat.le_of_ble_eq_true rfl, Nat.le_of_ble_eq_true rfl⟩) hV (fun H locs hP hV => ?_)
          refine h_if_eq_b (tgt := 56) hx hb dX3_bareNow_49 (by decide) (fun c_3 => ?_) (fun c_3 => ?_)
          · -- taken
            refine lv_iconst (v := 0) hx hb dX3_bareNow_56 (by decide) ?_
            refine h_iadd (v := nI (cntB (fun k => decide (k / cn < k % cn) && brM M pn (k / cn) (k % cn)) k)) hx hb dX3_bareNow_57 (by exact Int32.add_zero _) ?_
            refine lv_istore_n (lv' := [(1, .int (nI (cntB (fun k => decide (k / cn < k % cn) && brM M pn (k / cn) (k % cn)) k))), (2, .int (nI k)), (0, .ref (xa x 38))]) hx hb dX3_bareNow_58 rfl hl (by decide) rfl (fun ls hl => ?_)
            refine lv_iinc (v := nI (k + 1)) (lv' := [(2, .int (nI (k + 1))), (1, .int (nI (cntB (fun k => decide (k / cn < k % cn) && brM M pn (k / cn) (k % cn)) k))), (0, .ref (xa x 38))]) hx hb dX3_bareNow_59 hl (k := 1) rfl (nI_add (k) 1) (by decide) rfl (fun ls hl => ?_)
            refine lv_goto (tgt := 4) hx hb dX3_bareNow_62 (by decide) ?_
            exact ih_4 (k + 1) (by omega) (by omega)  _ _ hP hV ls (lv_sub hl [0, 1, 2] (show ([(2, .int (nI (k + 1))), (1, .int (nI (cntB (fun k => decide (k / cn < k % cn) && brM M pn (k / cn) (k % cn)) k))), (0, .ref (xa x 38))] : List (Nat × Value)) = [(2, .int (nI (k + 1))), (1, .int (nI (cntB (fun k => decide (k / cn < k % cn) && brM M pn (k / cn) (k % cn)) (k + 1)))), (0, .ref (xa x 38))] from by have hv : (fun k => decide (k / cn < k % cn) && brM M pn (k / cn) (k % cn)) k = false := (by simp [c_1, c_2, c_3] <;> omega); rw [cntB_f (f := (fun k => decide (k / cn < k % cn) && brM M pn (k / cn) (k % cn))) (t := k) hv]; try rfl))
          · -- on
            refine lv_iconst (v := 1) hx hb dX3_bareNow_52 (by decide) ?_
            refine lv_goto (tgt := 57) hx hb dX3_bareNow_53 (by decide) ?_
            refine h_iadd (v := nI ((cntB (fun k => decide (k / cn < k % cn) && brM M pn (k / cn) (k % cn)) k) + 1)) hx hb dX3_bareNow_57 (nI_add (cntB (fun k => decide (k / cn < k % cn) && brM M pn (k / cn) (k % cn)) k) 1) ?_
            refine lv_istore_n (lv' := [(1, .int (nI ((cntB (fun k => decide (k / cn < k % cn) && brM M pn (k / cn) (k % cn)) k) + 1))), (2, .int (nI k)), (0, .ref (xa x 38))]) hx hb dX3_bareNow_58 rfl hl (by decide) rfl (fun ls hl => ?_)
            refine lv_iinc (v := nI (k + 1)) (lv' := [(2, .int (nI (k + 1))), (1, .int (nI ((cntB (fun k => decide (k / cn < k % cn) && brM M pn (k / cn) (k % cn)) k) + 1))), (0, .ref (xa x 38))]) hx hb dX3_bareNow_59 hl (k := 1) rfl (nI_add (k) 1) (by decide) rfl (fun ls hl => ?_)
            refine lv_goto (tgt := 4) hx hb dX3_bareNow_62 (by decide) ?_
            exact ih_4 (k + 1) (by omega) (by omega)  _ _ hP hV ls (lv_sub hl [0, 1, 2] (show ([(2, .int (nI (k + 1))), (1, .int (nI ((cntB (fun k => decide (k / cn < k % cn) && brM M pn (k / cn) (k % cn)) k) + 1))), (0, .ref (xa x 38))] : List (Nat × Value)) = [(2, .int (nI (k + 1))), (1, .int (nI (cntB (fun k => decide (k / cn < k % cn) && brM M pn (k / cn) (k % cn)) (k + 1)))), (0, .ref (xa x 38))] from by have hv : (fun k => decide (k / cn < k % cn) && brM M pn (k / cn) (k % cn)) k = true := (by simp [c_1, c_2, c_3] <;> omega); rw [cntB_t (f := (fun k => decide (k / cn < k % cn) && brM M pn (k / cn) (k % cn))) (t := k) hv]; try rfl))
  exact lp_4 ((cn * cn) - (0) + 1) (0) (by omega) (by omega)  _ _ hP hV ls (lv_sub hl [0, 1, 2] (show ([(2, .int 0), (1, .int 0), (0, .ref (xa x 38))] : List (Nat × Value)) = [(2, .int 0), (1, .int (nI (cntB (fun k => decide (k / cn < k % cn) && brM M pn (k / cn) (k % cn)) 0))), (0, .ref (xa x 38))] from by rfl))
set_option maxHeartbeats 4000000 in
set_option maxRecDepth 100000 in
theorem c_X3_agrees (l : Launch) (x : Cx) (M : Nat → Nat → Int32) (i j : Nat) (b : Bool) (hi : i < 8) (hj : j < 8) : Met l yX3_agrees wsX3_agrees ({ frames := 0, cells := 0, slots := 0, locals := 0 }) (gP x M [.ref (xa x 38), .int (nI i), .int (nI j), .int (bI b)]) (gQ x none (agM M i j (bI b))) 0 0 (gF x) := by
  refine g_met (cc := cX3_agrees) (maxL := 4) (ret := none) (by decide) rfl (Nat.le_of_ble_eq_true rfl) ?_
  intro p e s m below meth c hx hb hr hml hts hown hlk hS hZ hP hV ls hl
  have hl : lv_has ls 4 [(0, .ref (xa x 38)), (1, .int (nI i)), (2, .int (nI j)), (3, .int (bI b))] := hl
  have hw_f25 := hts (.fieldLink RX3 25 "CableOfficeModel" "areAgreed" "[Z") (by decide +kernel)
  have hinX3 : ∀ w ∈ wsX30, w ∈ wsX3_agrees := by decide +kernel
  refine lv_aload_n hx hb dX3_agrees_0 rfl (lv_at hl 0 rfl) ?_
  refine g_get (C := RX3) (T := TX3) (N := 22) (v := .ref (xa x 44)) hx hb hts hinX3 hown hS hP (id := 38) (by decide) rfl rfl 8 (by decide) hw_f25 rfl dX3_agrees_1 ?_
  refine lv_bipush (v := 8) hx hb dX3_agrees_4 (by decide) ?_
  refine lv_iload_n hx hb dX3_agrees_6 rfl (lv_at hl 1 rfl) ?_
  refine h_imul (v := nI (8 * i)) hx hb dX3_agrees_7 (pk_mul (8) (i)) ?_
  refine lv_iload_n hx hb dX3_agrees_8 rfl (lv_at hl 2 rfl) ?_
  refine h_iadd (v := nI (8 * i + j)) hx hb dX3_agrees_9 (nI_add (8 * i) (j)) ?_
  refine lv_iload_n hx hb dX3_agrees_10 rfl (lv_at hl 3 rfl) ?_
  refine g_zast (j := 8 * i + j) hx hb hS hP hV (id := 44) (by omega) (fun _ => rfl) (by decide) rfl (by omega) (bI_nar _) dX3_agrees_11 (fun H locs hP hV => ?_)
  refine lv_aload_n hx hb dX3_agrees_12 rfl (lv_at hl 0 rfl) ?_
  refine g_get (C := RX3) (T := TX3) (N := 22) (v := .ref (xa x 44)) hx hb hts hinX3 hown hS hP (id := 38) (by decide) rfl rfl 8 (by decide) hw_f25 rfl dX3_agrees_13 ?_
  refine lv_bipush (v := 8) hx hb dX3_agrees_16 (by decide) ?_
  refine lv_iload_n hx hb dX3_agrees_18 rfl (lv_at hl 2 rfl) ?_
  refine h_imul (v := nI (8 * j)) hx hb dX3_agrees_19 (pk_mul (8) (j)) ?_
  refine lv_iload_n hx hb dX3_agrees_20 rfl (lv_at hl 1 rfl) ?_
  refine h_iadd (v := nI (8 * j + i)) hx hb dX3_agrees_21 (nI_add (8 * j) (i)) ?_
  refine lv_iload_n hx hb dX3_agrees_22 rfl (lv_at hl 3 rfl) ?_
  refine g_zast (j := 8 * j + i) hx hb hS hP hV (id := 44) (by omega) (fun _ => rfl) (by decide) rfl (by omega) (bI_nar _) dX3_agrees_23 (fun H locs hP hV => ?_)
  exact g_vret hx hb hr hlk hS hZ hP hV (Nat.le_of_ble_eq_true rfl) (Nat.le_of_ble_eq_true rfl) dX3_agrees_24 (by rfl)
set_option maxHeartbeats 4000000 in
set_option maxRecDepth 100000 in
theorem c_X3_price (l : Launch) (x : Cx) (M : Nat → Nat → Int32) (g : Nat) (hg : g < 5) : Met l yX3_price wsX3_price ({ frames := 0, cells := 0, slots := 0, locals := 0 }) (gP x M [.ref (xa x 38), .int (nI g)]) (gQ x (some (.int (prM (M 52 g) (M 51 g)))) M) 0 0 (gF x) := by
  refine g_met (cc := cX3_price) (maxL := 2) (ret := some .int) (by decide) rfl (Nat.le_of_ble_eq_true rfl) ?_
  intro p e s m below meth c hx hb hr hml hts hown hlk hS hZ hP hV ls hl
  have hl : lv_has ls 2 [(0, .ref (xa x 38)), (1, .int (nI g))] := hl
  have hw_f50 := hts (.fieldLink RX3 50 "CableOfficeModel" "years" "[I") (by decide +kernel)
  have hinX3 : ∀ w ∈ wsX30, w ∈ wsX3_price := by decide +kernel
  have hw_f47 := hts (.fieldLink RX3 47 "CableOfficeModel" "sums" "[I") (by decide +kernel)
  refine lv_aload_n hx hb dX3_price_0 rfl (lv_at hl 0 rfl) ?_
  refine g_get (C := RX3) (T := TX3) (N := 22) (v := .ref (xa x 52)) hx hb hts hinX3 hown hS hP (id := 38) (by decide) rfl rfl 17 (by decide) hw_f50 rfl dX3_price_1 ?_
  refine lv_iload_n hx hb dX3_price_4 rfl (lv_at hl 1 rfl) ?_
  refine g_iald (j := g) hx hb hS hP (id := 52) (by omega) ((fun _ => rfl) _) (by decide) rfl (by omega) dX3_price_5 ?_
  refine lv_if_ne (tgt := 13) hx hb dX3_price_6 (by decide) (fun c_1 => ?_) (fun c_1 => ?_)
  · -- taken
    refine lv_aload_n hx hb dX3_price_13 rfl (lv_at hl 0 rfl) ?_
    refine g_get (C := RX3) (T := TX3) (N := 22) (v := .ref (xa x 51)) hx hb hts hinX3 hown hS hP (id := 38) (by decide) rfl rfl 16 (by decide) hw_f47 rfl dX3_price_14 ?_
    refine lv_iload_n hx hb dX3_price_17 rfl (lv_at hl 1 rfl) ?_
    refine g_iald (j := g) hx hb hS hP (id := 51) (by omega) ((fun _ => rfl) _) (by decide) rfl (by omega) dX3_price_18 ?_
    refine lv_aload_n hx hb dX3_price_19 rfl (lv_at hl 0 rfl) ?_
    refine g_get (C := RX3) (T := TX3) (N := 22) (v := .ref (xa x 52)) hx hb hts hinX3 hown hS hP (id := 38) (by decide) rfl rfl 17 (by decide) hw_f50 rfl dX3_price_20 ?_
    refine lv_iload_n hx hb dX3_price_23 rfl (lv_at hl 1 rfl) ?_
    refine g_iald (j := g) hx hb hS hP (id := 52) (by omega) ((fun _ => rfl) _) (by decide) rfl (by omega) dX3_price_24 ?_
    refine lv_idiv hx hb dX3_price_25 c_1 ?_
    exact g_iret hx hb hr hlk hS hZ hP hV (Nat.le_of_ble_eq_true rfl) (Nat.le_of_ble_eq_true rfl) dX3_price_26 (by simp [prM, bI, c_1]) (by rfl)
  · -- on
    refine lv_iconst (v := 0) hx hb dX3_price_9 (by decide) ?_
    refine lv_goto (tgt := 26) hx hb dX3_price_10 (by decide) ?_
    exact g_iret hx hb hr hlk hS hZ hP hV (Nat.le_of_ble_eq_true rfl) (Nat.le_of_ble_eq_true rfl) dX3_price_26 (by simp [prM, bI, c_1]) (by rfl)
set_option maxHeartbeats 4000000 in
set_option maxRecDepth 100000 in
theorem c_X3_isClosedNow (l : Launch) (x : Cx) (M : Nat → Nat → Int32) (g : Nat) (mo : Int32) (hg : g < 5) : Met l yX3_isClosedNow wsX3_isClosedNow ({ frames := 1, cells := 0, slots := 0, locals := 22 }) (gP x M [.ref (xa x 38), .int (nI g), .int mo]) (gQ x (some (.int (bI (clM (M 49 g) (M 50 g) mo)))) M) 0 0 (gF x) := by
  refine g_met (cc := cX3_isClosedNow) (maxL := 5) (ret := some .boolean) (by decide) rfl (Nat.le_of_ble_eq_true rfl) ?_
  intro p e s m below meth c hx hb hr hml hts hown hlk hS hZ hP hV ls hl
  have hl : lv_has ls 5 [(0, .ref (xa x 38)), (1, .int (nI g)), (2, .int mo)] := hl
  have hw_f41 := hts (.fieldLink RX3 41 "CableOfficeModel" "froms" "[I") (by decide +kernel)
  have hinX3 : ∀ w ∈ wsX30, w ∈ wsX3_isClosedNow := by decide +kernel
  have hw_f44 := hts (.fieldLink RX3 44 "CableOfficeModel" "tos" "[I") (by decide +kernel)
  refine lv_aload_n hx hb dX3_isClosedNow_0 rfl (lv_at hl 0 rfl) ?_
  refine g_get (C := RX3) (T := TX3) (N := 22) (v := .ref (xa x 49)) hx hb hts hinX3 hown hS hP (id := 38) (by decide) rfl rfl 14 (by decide) hw_f41 rfl dX3_isClosedNow_1 ?_
  refine lv_iload_n hx hb dX3_isClosedNow_4 rfl (lv_at hl 1 rfl) ?_
  refine g_iald (j := g) hx hb hS hP (id := 49) (by omega) ((fun _ => rfl) _) (by decide) rfl (by omega) dX3_isClosedNow_5 ?_
  refine lv_istore_n (lv' := [(3, .int (M 49 g)), (0, .ref (xa x 38)), (1, .int (nI g)), (2, .int mo)]) hx hb dX3_isClosedNow_6 rfl hl (by decide) rfl (fun ls hl => ?_)
  refine lv_aload_n hx hb dX3_isClosedNow_7 rfl (lv_at hl 1 rfl) ?_
  refine g_get (C := RX3) (T := TX3) (N := 22) (v := .ref (xa x 50)) hx hb hts hinX3 hown hS hP (id := 38) (by decide) rfl rfl 15 (by decide) hw_f44 rfl dX3_isClosedNow_8 ?_
  refine lv_iload_n hx hb dX3_isClosedNow_11 rfl (lv_at hl 2 rfl) ?_
  refine g_iald (j := g) hx hb hS hP (id := 50) (by omega) ((fun _ => rfl) _) (by decide) rfl (by omega) dX3_isClosedNow_12 ?_
  refine lv_istore (lv' := [(4, .int (M 50 g)), (3, .int (M 49 g)), (0, .ref (xa x 38)), (1, .int (nI g)), (2, .int mo)]) hx hb dX3_isClosedNow_13 hl (by decide) rfl (fun ls hl => ?_)
  refine lv_iload_n hx hb dX3_isClosedNow_15 rfl (lv_at hl 1 rfl) ?_
  refine lv_iload hx hb dX3_isClosedNow_16 (lv_at hl 0 rfl) ?_
  refine lv_icmp_gt (tgt := 31) hx hb dX3_isClosedNow_18 (by decide) (fun c_1 => ?_) (fun c_1 => ?_)
  · -- taken
    refine lv_iload_n hx hb dX3_isClosedNow_31 rfl (lv_at hl 4 rfl) ?_
    refine lv_iload_n hx hb dX3_isClosedNow_32 rfl (lv_at hl 1 rfl) ?_
    refine lv_icmp_ge (tgt := 42) hx hb dX3_isClosedNow_33 (by decide) (fun c_2 => ?_) (fun c_2 => ?_)
    · -- taken
      refine lv_iconst (v := 1) hx hb dX3_isClosedNow_42 (by decide) ?_
      refine lv_goto (tgt := 47) hx hb dX3_isClosedNow_43 (by decide) ?_
      exact g_zret hx hb hr hlk hS hZ hP hV (Nat.le_of_ble_eq_true rfl) (Nat.le_of_ble_eq_true rfl) dX3_isClosedNow_47 (by decide) (by simp [clM, bI, c_1, c_2]) (by rfl)
    · -- on
      refine lv_iload_n hx hb dX3_isClosedNow_36 rfl (lv_at hl 4 rfl) ?_
      refine lv_iload hx hb dX3_isClosedNow_37 (lv_at hl 0 rfl) ?_
      refine lv_icmp_gt (tgt := 46) hx hb dX3_isClosedNow_39 (by decide) (fun c_3 => ?_) (fun c_3 => ?_)
      · -- taken
        refine lv_iconst (v := 0) hx hb dX3_isClosedNow_46 (by decide) ?_
        exact g_zret hx hb hr hlk hS hZ hP hV (Nat.le_of_ble_eq_true rfl) (Nat.le_of_ble_eq_true rfl) dX3_isClosedNow_47 (by decide) (by simp [clM, bI, c_1, c_2, c_3]) (by rfl)
      · -- on
        refine lv_iconst (v := 1) hx hb dX3_isClosedNow_42 (by decide) ?_
        refine lv_goto (tgt := 47) hx hb dX3_isClosedNow_43 (by decide) ?_
        exact g_zret hx hb hr hlk hS hZ hP hV (Nat.le_of_ble_eq_true rfl) (Nat.le_of_ble_eq_true rfl) dX3_isClosedNow_47 (by decide) (by simp [clM, bI, c_1, c_2, c_3]) (by rfl)
  · -- on
    refine lv_iload_n hx hb dX3_isClosedNow_21 rfl (lv_at hl 4 rfl) ?_
    refine lv_iload_n hx hb dX3_isClosedNow_22 rfl (lv_at hl 1 rfl) ?_
    refine lv_iload hx hb dX3_isClosedNow_23 (lv_at hl 0 rfl) ?_
    refine g_call1 (va_runS (As := [.int mo, .int (M 49 g), .int (M 50 g)]) (rest := []) ⟨hx, hb, hml, hown, hts⟩ (c_X3_in l x M mo (M 49 g) (M 50 g)) (va_cwS 3 hts gX3_isClosedNow_X3_in rfl rfl rfl (by decide +kernel) ⟨Nat.le_of_ble_eq_true rfl, Nat.le_of_ble_eq_true rfl⟩) (g_preS hS hZ hP hV [.int mo, .int (M 49 g), .int (M 50 g)]) rfl rfl hl.1 rfl (lv_room (Nat.le_of_ble_eq_true rfl)) dX3_isClosedNow_25 ⟨Nat.le_of_ble_eq_true rfl, Nat.le_of_ble_eq_true rfl⟩) hV (fun H locs hP hV => ?_)
    refine lv_goto (tgt := 47) hx hb dX3_isClosedNow_28 (by decide) ?_
    exact g_zret hx hb hr hlk hS hZ hP hV (Nat.le_of_ble_eq_true rfl) (Nat.le_of_ble_eq_true rfl) dX3_isClosedNow_47 (bI_nar _) (by simp [clM, bI, c_1]) (by rfl)
set_option maxHeartbeats 4000000 in
set_option maxRecDepth 100000 in
theorem c_X3_doTouch (l : Launch) (x : Cx) (M : Nat → Nat → Int32) (q g : Nat) (hq : q + 1 < 64) (hg : g < 5) : Met l yX3_doTouch wsX3_doTouch ({ frames := 3, cells := 0, slots := 0, locals := 83 }) (gP x M [.ref (xa x 38), .int (nI q), .int (nI g)]) (gQ x (some (.int (bI (toM M q g)))) M) 0 0 (gF x) := by
  refine g_met (cc := cX3_doTouch) (maxL := 9) (ret := some .boolean) (by decide) rfl (Nat.le_of_ble_eq_true rfl) ?_
  intro p e s m below meth c hx hb hr hml hts hown hlk hS hZ hP hV ls hl
  have hl : lv_has ls 9 [(0, .ref (xa x 38)), (1, .int (nI q)), (2, .int (nI g))] := hl
  have hw_f29 := hts (.fieldLink RX3 29 "CableOfficeModel" "lefts" "[I") (by decide +kernel)
  have hinX3 : ∀ w ∈ wsX30, w ∈ wsX3_doTouch := by decide +kernel
  have hw_f32 := hts (.fieldLink RX3 32 "CableOfficeModel" "lows" "[I") (by decide +kernel)
  have hw_f35 := hts (.fieldLink RX3 35 "CableOfficeModel" "rights" "[I") (by decide +kernel)
  have hw_f38 := hts (.fieldLink RX3 38 "CableOfficeModel" "highs" "[I") (by decide +kernel)
  have hw_f19 := hts (.fieldLink RX3 19 "CableOfficeModel" "xs" "[I") (by decide +kernel)
  have hw_f22 := hts (.fieldLink RX3 22 "CableOfficeModel" "ys" "[I") (by decide +kernel)
  refine lv_aload_n hx hb dX3_doTouch_0 rfl (lv_at hl 0 rfl) ?_
  refine g_get (C := RX3) (T := TX3) (N := 22) (v := .ref (xa x 45)) hx hb hts hinX3 hown hS hP (id := 38) (by decide) rfl rfl 10 (by decide) hw_f29 rfl dX3_doTouch_1 ?_
  refine lv_iload_n hx hb dX3_doTouch_4 rfl (lv_at hl 2 rfl) ?_
  refine g_iald (j := g) hx hb hS hP (id := 45) (by omega) ((fun _ => rfl) _) (by decide) rfl (by omega) dX3_doTouch_5 ?_
  refine lv_istore_n (lv' := [(3, .int (M 45 g)), (0, .ref (xa x 38)), (1, .int (nI q)), (2, .int (nI g))]) hx hb dX3_doTouch_6 rfl hl (by decide) rfl (fun ls hl => ?_)
  refine lv_aload_n hx hb dX3_doTouch_7 rfl (lv_at hl 1 rfl) ?_
  refine g_get (C := RX3) (T := TX3) (N := 22) (v := .ref (xa x 46)) hx hb hts hinX3 hown hS hP (id := 38) (by decide) rfl rfl 11 (by decide) hw_f32 rfl dX3_doTouch_8 ?_
  refine lv_iload_n hx hb dX3_doTouch_11 rfl (lv_at hl 3 rfl) ?_
  refine g_iald (j := g) hx hb hS hP (id := 46) (by omega) ((fun _ => rfl) _) (by decide) rfl (by omega) dX3_doTouch_12 ?_
  refine lv_istore (lv' := [(4, .int (M 46 g)), (3, .int (M 45 g)), (0, .ref (xa x 38)), (1, .int (nI q)), (2, .int (nI g))]) hx hb dX3_doTouch_13 hl (by decide) rfl (fun ls hl => ?_)
  refine lv_aload_n hx hb dX3_doTouch_15 rfl (lv_at hl 2 rfl) ?_
  refine g_get (C := RX3) (T := TX3) (N := 22) (v := .ref (xa x 47)) hx hb hts hinX3 hown hS hP (id := 38) (by decide) rfl rfl 12 (by decide) hw_f35 rfl dX3_doTouch_16 ?_
  refine lv_iload_n hx hb dX3_doTouch_19 rfl (lv_at hl 4 rfl) ?_
  refine g_iald (j := g) hx hb hS hP (id := 47) (by omega) ((fun _ => rfl) _) (by decide) rfl (by omega) dX3_doTouch_20 ?_
  refine lv_istore (lv' := [(5, .int (M 47 g)), (4, .int (M 46 g)), (3, .int (M 45 g)), (0, .ref (xa x 38)), (1, .int (nI q)), (2, .int (nI g))]) hx hb dX3_doTouch_21 hl (by decide) rfl (fun ls hl => ?_)
  refine lv_aload_n hx hb dX3_doTouch_23 rfl (lv_at hl 3 rfl) ?_
  refine g_get (C := RX3) (T := TX3) (N := 22) (v := .ref (xa x 48)) hx hb hts hinX3 hown hS hP (id := 38) (by decide) rfl rfl 13 (by decide) hw_f38 rfl dX3_doTouch_24 ?_
  refine lv_iload_n hx hb dX3_doTouch_27 rfl (lv_at hl 5 rfl) ?_
  refine g_iald (j := g) hx hb hS hP (id := 48) (by omega) ((fun _ => rfl) _) (by decide) rfl (by omega) dX3_doTouch_28 ?_
  refine lv_istore (lv' := [(6, .int (M 48 g)), (5, .int (M 47 g)), (4, .int (M 46 g)), (3, .int (M 45 g)), (0, .ref (xa x 38)), (1, .int (nI q)), (2, .int (nI g))]) hx hb dX3_doTouch_29 hl (by decide) rfl (fun ls hl => ?_)
  have J_67 : ∀ v : Int32, v = bI (inI (M 42 q) (M 45 g) (M 47 g) && inI (M 43 q) (M 46 g) (M 48 g)) → ∀ (H : Heap) (locs : List Loc), va_P (xD x) vwCl (wAll x M) H → va_S (gF x) s.heap H locs → ∀ ls : Array Slot, lv_has ls 9 [(6, .int (M 48 g)), (5, .int (M 47 g)), (4, .int (M 46 g)), (3, .int (M 45 g)), (0, .ref (xa x 38)), (1, .int (nI q)), (2, .int (nI g))] → W p l e ({ frames := 3, cells := 0, slots := 0, locals := 83 }) s m ([.ref (xa x 38), .int (nI q), .int (nI g)] : List Value).toArray below meth c H locs 0 0 (MQ below (gQ x (some (.int (bI (toM M q g)))) M) ([.ref (xa x 38), .int (nI q), .int (nI g)] : List Value).toArray s 0 0 (gF x)) (F0 m 67 ls (.int v :: [])) := by
    intro v hv H locs hP hV ls hl
    subst hv
    refine lv_istore (lv' := [(7, .int (bI (inI (M 42 q) (M 45 g) (M 47 g) && inI (M 43 q) (M 46 g) (M 48 g)))), (6, .int (M 48 g)), (5, .int (M 47 g)), (4, .int (M 46 g)), (3, .int (M 45 g)), (0, .ref (xa x 38)), (1, .int (nI q)), (2, .int (nI g))]) hx hb dX3_doTouch_67 hl (by decide) rfl (fun ls hl => ?_)
    have J_104 : ∀ v : Int32, v = bI (meM (M 42 q) (M 43 q) (M 42 (q + 1)) (M 43 (q + 1)) (M 45 g) (M 46 g) (M 47 g) (M 46 g) || meM (M 42 q) (M 43 q) (M 42 (q + 1)) (M 43 (q + 1)) (M 45 g) (M 48 g) (M 47 g) (M 48 g)) → ∀ (H : Heap) (locs : List Loc), va_P (xD x) vwCl (wAll x M) H → va_S (gF x) s.heap H locs → ∀ ls : Array Slot, lv_has ls 9 [(7, .int (bI (inI (M 42 q) (M 45 g) (M 47 g) && inI (M 43 q) (M 46 g) (M 48 g)))), (6, .int (M 48 g)), (5, .int (M 47 g)), (4, .int (M 46 g)), (3, .int (M 45 g)), (0, .ref (xa x 38)), (1, .int (nI q)), (2, .int (nI g))] → W p l e ({ frames := 3, cells := 0, slots := 0, locals := 83 }) s m ([.ref (xa x 38), .int (nI q), .int (nI g)] : List Value).toArray below meth c H locs 0 0 (MQ below (gQ x (some (.int (bI (toM M q g)))) M) ([.ref (xa x 38), .int (nI q), .int (nI g)] : List Value).toArray s 0 0 (gF x)) (F0 m 104 ls (.int v :: [])) := by
      intro v hv H locs hP hV ls hl
      subst hv
      refine lv_istore (lv' := [(8, .int (bI (meM (M 42 q) (M 43 q) (M 42 (q + 1)) (M 43 (q + 1)) (M 45 g) (M 46 g) (M 47 g) (M 46 g) || meM (M 42 q) (M 43 q) (M 42 (q + 1)) (M 43 (q + 1)) (M 45 g) (M 48 g) (M 47 g) (M 48 g)))), (7, .int (bI (inI (M 42 q) (M 45 g) (M 47 g) && inI (M 43 q) (M 46 g) (M 48 g)))), (6, .int (M 48 g)), (5, .int (M 47 g)), (4, .int (M 46 g)), (3, .int (M 45 g)), (0, .ref (xa x 38)), (1, .int (nI q)), (2, .int (nI g))]) hx hb dX3_doTouch_104 hl (by decide) rfl (fun ls hl => ?_)
      refine lv_iload hx hb dX3_doTouch_106 (lv_at hl 1 rfl) ?_
      refine h_if_ne_b (tgt := 146) hx hb dX3_doTouch_108 (by decide) (fun c_1 => ?_) (fun c_1 => ?_)
      · -- taken
        refine lv_iconst (v := 1) hx hb dX3_doTouch_146 (by decide) ?_
        refine lv_goto (tgt := 151) hx hb dX3_doTouch_147 (by decide) ?_
        exact g_zret hx hb hr hlk hS hZ hP hV (Nat.le_of_ble_eq_true rfl) (Nat.le_of_ble_eq_true rfl) dX3_doTouch_151 (by decide) (by have hv : toM M q g = true := (by simp only [toM, c_1, Bool.true_or, Bool.or_true, Bool.or_false, Bool.false_or]); rw [hv]; rfl) (by rfl)
      · -- on
        refine lv_iload hx hb dX3_doTouch_111 (lv_at hl 0 rfl) ?_
        refine h_if_ne_b (tgt := 146) hx hb dX3_doTouch_113 (by decide) (fun c_2 => ?_) (fun c_2 => ?_)
        · -- taken
          refine lv_iconst (v := 1) hx hb dX3_doTouch_146 (by decide) ?_
          refine lv_goto (tgt := 151) hx hb dX3_doTouch_147 (by decide) ?_
          exact g_zret hx hb hr hlk hS hZ hP hV (Nat.le_of_ble_eq_true rfl) (Nat.le_of_ble_eq_true rfl) dX3_doTouch_151 (by decide) (by have hv : toM M q g = true := (by simp only [toM, c_1, c_2, Bool.true_or, Bool.or_true, Bool.or_false, Bool.false_or]); rw [hv]; rfl) (by rfl)
        · -- on
          refine lv_aload_n hx hb dX3_doTouch_116 rfl (lv_at hl 6 rfl) ?_
          refine lv_iload_n hx hb dX3_doTouch_117 rfl (lv_at hl 7 rfl) ?_
          refine lv_iload_n hx hb dX3_doTouch_118 rfl (lv_at hl 5 rfl) ?_
          refine lv_iload hx hb dX3_doTouch_119 (lv_at hl 4 rfl) ?_
          refine lv_iload_n hx hb dX3_doTouch_121 rfl (lv_at hl 5 rfl) ?_
          refine lv_iload hx hb dX3_doTouch_122 (lv_at hl 2 rfl) ?_
          refine g_call1 (va_runV (As := [.int (nI q), .int (M 45 g), .int (M 46 g), .int (M 45 g), .int (M 48 g)]) (rest := []) ⟨hx, hb, hml, hown, hts⟩ (c_X3_meets l x M q (M 45 g) (M 46 g) (M 45 g) (M 48 g) (by omega)) (cwV 5 hts gX3_doTouch_X3_meets rfl rfl rfl (by decide +kernel) ⟨Nat.le_of_ble_eq_true rfl, Nat.le_of_ble_eq_true rfl⟩) (g_preV hS hZ hP hV [.int (nI q), .int (M 45 g), .int (M 46 g), .int (M 45 g), .int (M 48 g)] (id := 38) (by decide) rfl rfl) rfl rfl hl.1 rfl (lv_room (Nat.le_of_ble_eq_true rfl)) dX3_doTouch_124 ⟨Nat.le_of_ble_eq_true rfl, Nat.le_of_ble_eq_true rfl⟩) hV (fun H locs hP hV => ?_)
          refine h_if_ne_b (tgt := 146) hx hb dX3_doTouch_127 (by decide) (fun c_3 => ?_) (fun c_3 => ?_)
          · -- taken
            refine lv_iconst (v := 1) hx hb dX3_doTouch_146 (by decide) ?_
            refine lv_goto (tgt := 151) hx hb dX3_doTouch_147 (by decide) ?_
            exact g_zret hx hb hr hlk hS hZ hP hV (Nat.le_of_ble_eq_true rfl) (Nat.le_of_ble_eq_true rfl) dX3_doTouch_151 (by decide) (by have hv : toM M q g = true := (by simp only [toM, c_1, c_2, c_3, Bool.true_or, Bool.or_true, Bool.or_false, Bool.false_or]); rw [hv]; rfl) (by rfl)
          · -- on
            refine lv_aload_n hx hb dX3_doTouch_130 rfl (lv_at hl 6 rfl) ?_
            refine lv_iload_n hx hb dX3_doTouch_131 rfl (lv_at hl 7 rfl) ?_
            refine lv_iload hx hb dX3_doTouch_132 (lv_at hl 3 rfl) ?_
            refine lv_iload hx hb dX3_doTouch_134 (lv_at hl 4 rfl) ?_
            refine lv_iload hx hb dX3_doTouch_136 (lv_at hl 3 rfl) ?_
            refine lv_iload hx hb dX3_doTouch_138 (lv_at hl 2 rfl) ?_
            refine g_call1 (va_runV (As := [.int (nI q), .int (M 47 g), .int (M 46 g), .int (M 47 g), .int (M 48 g)]) (rest := []) ⟨hx, hb, hml, hown, hts⟩ (c_X3_meets l x M q (M 47 g) (M 46 g) (M 47 g) (M 48 g) (by omega)) (cwV 5 hts gX3_doTouch_X3_meets rfl rfl rfl (by decide +kernel) ⟨Nat.le_of_ble_eq_true rfl, Nat.le_of_ble_eq_true rfl⟩) (g_preV hS hZ hP hV [.int (nI q), .int (M 47 g), .int (M 46 g), .int (M 47 g), .int (M 48 g)] (id := 38) (by decide) rfl rfl) rfl rfl hl.1 rfl (lv_room (Nat.le_of_ble_eq_true rfl)) dX3_doTouch_140 ⟨Nat.le_of_ble_eq_true rfl, Nat.le_of_ble_eq_true rfl⟩) hV (fun H locs hP hV => ?_)
            refine h_if_eq_b (tgt := 150) hx hb dX3_doTouch_143 (by decide) (fun c_4 => ?_) (fun c_4 => ?_)
            · -- taken
              refine lv_iconst (v := 0) hx hb dX3_doTouch_150 (by decide) ?_
              exact g_zret hx hb hr hlk hS hZ hP hV (Nat.le_of_ble_eq_true rfl) (Nat.le_of_ble_eq_true rfl) dX3_doTouch_151 (by decide) (by have hv : toM M q g = false := (by simp only [toM, c_1, c_2, c_3, c_4, Bool.true_or, Bool.or_true, Bool.or_false, Bool.false_or]); rw [hv]; rfl) (by rfl)
            · -- on
              refine lv_iconst (v := 1) hx hb dX3_doTouch_146 (by decide) ?_
              refine lv_goto (tgt := 151) hx hb dX3_doTouch_147 (by decide) ?_
              exact g_zret hx hb hr hlk hS hZ hP hV (Nat.le_of_ble_eq_true rfl) (Nat.le_of_ble_eq_true rfl) dX3_doTouch_151 (by decide) (by have hv : toM M q g = true := (by simp only [toM, c_1, c_2, c_3, c_4, Bool.true_or, Bool.or_true, Bool.or_false, Bool.false_or]); rw [hv]; rfl) (by rfl)
    refine lv_aload_n hx hb dX3_doTouch_69 rfl (lv_at hl 5 rfl) ?_
    refine lv_iload_n hx hb dX3_doTouch_70 rfl (lv_at hl 6 rfl) ?_
    refine lv_iload_n hx hb dX3_doTouch_71 rfl (lv_at hl 4 rfl) ?_
    refine lv_iload hx hb dX3_doTouch_72 (lv_at hl 3 rfl) ?_
    refine lv_iload hx hb dX3_doTouch_74 (lv_at hl 2 rfl) ?_
    refine lv_iload hx hb dX3_doTouch_76 (lv_at hl 3 rfl) ?_
    refine g_call1 (va_runV (As := [.int (nI q), .int (M 45 g), .int (M 46 g), .int (M 47 g), .int (M 46 g)]) (rest := []) ⟨hx, hb, hml, hown, hts⟩ (c_X3_meets l x M q (M 45 g) (M 46 g) (M 47 g) (M 46 g) (by omega)) (cwV 5 hts gX3_doTouch_X3_meets rfl rfl rfl (by decide +kernel) ⟨Nat.le_of_ble_eq_true rfl, Nat.le_of_ble_eq_true rfl⟩) (g_preV hS hZ hP hV [.int (nI q), .int (M 45 g), .int (M 46 g), .int (M 47 g), .int (M 46 g)] (id := 38) (by decide) rfl rfl) rfl rfl hl.1 rfl (lv_room (Nat.le_of_ble_eq_true rfl)) dX3_doTouch_78 ⟨Nat.le_of_ble_eq_true rfl, Nat.le_of_ble_eq_true rfl⟩) hV (fun H locs hP hV => ?_)
    refine h_if_ne_b (tgt := 99) hx hb dX3_doTouch_81 (by decide) (fun c_5 => ?_) (fun c_5 => ?_)
    · -- taken
      refine lv_iconst (v := 1) hx hb dX3_doTouch_99 (by decide) ?_
      refine lv_goto (tgt := 104) hx hb dX3_doTouch_100 (by decide) ?_
      exact J_104 _ (by simp [bI, c_5]) _ _ hP hV ls hl
    · -- on
      refine lv_aload_n hx hb dX3_doTouch_84 rfl (lv_at hl 5 rfl) ?_
      refine lv_iload_n hx hb dX3_doTouch_85 rfl (lv_at hl 6 rfl) ?_
      refine lv_iload_n hx hb dX3_doTouch_86 rfl (lv_at hl 4 rfl) ?_
      refine lv_iload hx hb dX3_doTouch_87 (lv_at hl 1 rfl) ?_
      refine lv_iload hx hb dX3_doTouch_89 (lv_at hl 2 rfl) ?_
      refine lv_iload hx hb dX3_doTouch_91 (lv_at hl 1 rfl) ?_
      refine g_call1 (va_runV (As := [.int (nI q), .int (M 45 g), .int (M 48 g), .int (M 47 g), .int (M 48 g)]) (rest := []) ⟨hx, hb, hml, hown, hts⟩ (c_X3_meets l x M q (M 45 g) (M 48 g) (M 47 g) (M 48 g) (by omega)) (cwV 5 hts gX3_doTouch_X3_meets rfl rfl rfl (by decide +kernel) ⟨Nat.le_of_ble_eq_true rfl, Nat.le_of_ble_eq_true rfl⟩) (g_preV hS hZ hP hV [.int (nI q), .int (M 45 g), .int (M 48 g), .int (M 47 g), .int (M 48 g)] (id := 38) (by decide) rfl rfl) rfl rfl hl.1 rfl (lv_room (Nat.le_of_ble_eq_true rfl)) dX3_doTouch_93 ⟨Nat.le_of_ble_eq_true rfl, Nat.le_of_ble_eq_true rfl⟩) hV (fun H locs hP hV => ?_)
      refine h_if_eq_b (tgt := 103) hx hb dX3_doTouch_96 (by decide) (fun c_6 => ?_) (fun c_6 => ?_)
      · -- taken
        refine lv_iconst (v := 0) hx hb dX3_doTouch_103 (by decide) ?_
        exact J_104 _ (by simp [bI, c_5, c_6]) _ _ hP hV ls hl
      · -- on
        refine lv_iconst (v := 1) hx hb dX3_doTouch_99 (by decide) ?_
        refine lv_goto (tgt := 104) hx hb dX3_doTouch_100 (by decide) ?_
        exact J_104 _ (by simp [bI, c_5, c_6]) _ _ hP hV ls hl
  refine lv_aload_n hx hb dX3_doTouch_31 rfl (lv_at hl 4 rfl) ?_
  refine g_get (C := RX3) (T := TX3) (N := 22) (v := .ref (xa x 42)) hx hb hts hinX3 hown hS hP (id := 38) (by decide) rfl rfl 6 (by decide) hw_f19 rfl dX3_doTouch_32 ?_
  refine lv_iload_n hx hb dX3_doTouch_35 rfl (lv_at hl 5 rfl) ?_
  refine g_iald (j := q) hx hb hS hP (id := 42) (by omega) ((fun _ => rfl) _) (by decide) rfl (by omega) dX3_doTouch_36 ?_
  refine lv_iload_n hx hb dX3_doTouch_37 rfl (lv_at hl 3 rfl) ?_
  refine lv_iload hx hb dX3_doTouch_38 (lv_at hl 1 rfl) ?_
  refine g_call1 (va_runS (As := [.int (M 42 q), .int (M 45 g), .int (M 47 g)]) (rest := []) ⟨hx, hb, hml, hown, hts⟩ (c_X3_in l x M (M 42 q) (M 45 g) (M 47 g)) (va_cwS 3 hts gX3_doTouch_X3_in rfl rfl rfl (by decide +kernel) ⟨Nat.le_of_ble_eq_true rfl, Nat.le_of_ble_eq_true rfl⟩) (g_preS hS hZ hP hV [.int (M 42 q), .int (M 45 g), .int (M 47 g)]) rfl rfl hl.1 rfl (lv_room (Nat.le_of_ble_eq_true rfl)) dX3_doTouch_40 ⟨Nat.le_of_ble_eq_true rfl, Nat.le_of_ble_eq_true rfl⟩) hV (fun H locs hP hV => ?_)
  refine h_if_eq_b (tgt := 66) hx hb dX3_doTouch_43 (by decide) (fun c_7 => ?_) (fun c_7 => ?_)
  · -- taken
    refine lv_iconst (v := 0) hx hb dX3_doTouch_66 (by decide) ?_
    exact J_67 _ (by simp [bI, c_7]) _ _ hP hV ls hl
  · -- on
    refine lv_aload_n hx hb dX3_doTouch_46 rfl (lv_at hl 4 rfl) ?_
    refine g_get (C := RX3) (T := TX3) (N := 22) (v := .ref (xa x 43)) hx hb hts hinX3 hown hS hP (id := 38) (by decide) rfl rfl 7 (by decide) hw_f22 rfl dX3_doTouch_47 ?_
    refine lv_iload_n hx hb dX3_doTouch_50 rfl (lv_at hl 5 rfl) ?_
    refine g_iald (j := q) hx hb hS hP (id := 43) (by omega) ((fun _ => rfl) _) (by decide) rfl (by omega) dX3_doTouch_51 ?_
    refine lv_iload hx hb dX3_doTouch_52 (lv_at hl 2 rfl) ?_
    refine lv_iload hx hb dX3_doTouch_54 (lv_at hl 0 rfl) ?_
    refine g_call1 (va_runS (As := [.int (M 43 q), .int (M 46 g), .int (M 48 g)]) (rest := []) ⟨hx, hb, hml, hown, hts⟩ (c_X3_in l x M (M 43 q) (M 46 g) (M 48 g)) (va_cwS 3 hts gX3_doTouch_X3_in rfl rfl rfl (by decide +kernel) ⟨Nat.le_of_ble_eq_true rfl, Nat.le_of_ble_eq_true rfl⟩) (g_preS hS hZ hP hV [.int (M 43 q), .int (M 46 g), .int (M 48 g)]) rfl rfl hl.1 rfl (lv_room (Nat.le_of_ble_eq_true rfl)) dX3_doTouch_56 ⟨Nat.le_of_ble_eq_true rfl, Nat.le_of_ble_eq_true rfl⟩) hV (fun H locs hP hV => ?_)
    refine h_if_eq_b (tgt := 66) hx hb dX3_doTouch_59 (by decide) (fun c_8 => ?_) (fun c_8 => ?_)
    · -- taken
      refine lv_iconst (v := 0) hx hb dX3_doTouch_66 (by decide) ?_
      exact J_67 _ (by simp [bI, c_7, c_8]) _ _ hP hV ls hl
    · -- on
      refine lv_iconst (v := 1) hx hb dX3_doTouch_62 (by decide) ?_
      refine lv_goto (tgt := 67) hx hb dX3_doTouch_63 (by decide) ?_
      exact J_67 _ (by simp [bI, c_7, c_8]) _ _ hP hV ls hl
