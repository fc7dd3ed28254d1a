set_option maxHeartbeats 4000000 in
set_option maxRecDepth 100000 in
theorem c_X3_draft (l : Launch) (x : Cx) (M : Nat → Nat → Int32) (cn gn dn : Nat) (pn : Nat → Nat) (px py : Int32) (hM : OkM M cn gn dn pn) : Met l yX3_draft wsX3_draft ({ frames := 2, cells := 0, slots := 0, locals := 43 }) (gP x M [.ref (xa x 38), .int px, .int py]) (gQ x (some (.int (if cdDr M dn px py = 0 then nI (dn + 1) else 0))) (if cdDr M dn px py = 0 then drM M dn px py else up2 M 38 0 (cdDr M dn px py))) 0 0 (gF x) := by
  refine g_met (cc := cX3_draft) (maxL := 4) (ret := some .int) (by decide) rfl (Nat.le_of_ble_eq_true rfl) ?_
  intro p e s m below meth c hx hb hr hml hts hown hlk hS hZ hP hV ls hl
  have hl : lv_has ls 4 [(0, .ref (xa x 38)), (1, .int px), (2, .int py)] := hl
  have hw_f77 := hts (.fieldLink RX3 77 "CableOfficeModel" "drafted" "I") (by decide +kernel)
  have hinX3 : ∀ w ∈ wsX30, w ∈ wsX3_draft := by decide +kernel
  have hw_f7 := hts (.fieldLink RX3 7 "CableOfficeModel" "draftXs" "[I") (by decide +kernel)
  have hw_f13 := hts (.fieldLink RX3 13 "CableOfficeModel" "draftYs" "[I") (by decide +kernel)
  have hc8 := hM.c8
  have hg5 := hM.g5
  have hd8 := hM.d8
  have J_42 : ∀ v : Int32, v = bI (sdM M dn px py) → ∀ (H : Heap) (locs : List Loc), va_P (xD x) vwCl (wAll x M) H → va_S (gF x) s.heap H locs → ∀ ls : Array Slot, lv_has ls 4 [(0, .ref (xa x 38)), (1, .int px), (2, .int py)] → W p l e ({ frames := 2, cells := 0, slots := 0, locals := 43 }) s m ([.ref (xa x 38), .int px, .int py] : List Value).toArray below meth c H locs 0 0 (MQ below (gQ x (some (.int (if cdDr M dn px py = 0 then nI (dn + 1) else 0))) (if cdDr M dn px py = 0 then drM M dn px py else up2 M 38 0 (cdDr M dn px py))) ([.ref (xa x 38), .int px, .int py] : List Value).toArray s 0 0 (gF x)) (F0 m 42 ls (.int v :: [])) := by
    intro v hv H locs hP hV ls hl
    subst hv
    refine lv_istore_n (lv' := [(3, .int (bI (sdM M dn px py))), (0, .ref (xa x 38)), (1, .int px), (2, .int py)]) hx hb dX3_draft_42 rfl hl (by decide) rfl (fun ls hl => ?_)
    refine lv_aload_n hx hb dX3_draft_43 rfl (lv_at hl 1 rfl) ?_
    refine lv_iload_n hx hb dX3_draft_44 rfl (lv_at hl 2 rfl) ?_
    refine lv_iload_n hx hb dX3_draft_45 rfl (lv_at hl 3 rfl) ?_
    refine g_call1 (va_runS (As := [.int px, .int py]) (rest := [.ref (xa x 38)]) ⟨hx, hb, hml, hown, hts⟩ (c_X3_isPlace l x M px py) (va_cwS 2 hts gX3_draft_X3_isPlace rfl rfl rfl (by decide +kernel) ⟨Nat.le_of_ble_eq_true rfl, Nat.le_of_ble_eq_true rfl⟩) (g_preS hS hZ hP hV [.int px, .int py]) rfl rfl hl.1 rfl (lv_room (Nat.le_of_ble_eq_true rfl)) dX3_draft_46 ⟨Nat.le_of_ble_eq_true rfl, Nat.le_of_ble_eq_true rfl⟩) hV (fun H locs hP hV => ?_)
    refine h_if_ne_b (tgt := 56) hx hb dX3_draft_49 (by decide) (fun c_1 => ?_) (fun c_1 => ?_)
    · -- taken
      refine lv_aload_n hx hb dX3_draft_56 rfl (lv_at hl 1 rfl) ?_
      refine g_get (C := RX3) (T := TX3) (N := 22) (v := .int (nI dn)) hx hb hts hinX3 hown hS hP (id := 38) (by decide) rfl rfl 1 (by decide) hw_f77 (congrArg (fun z => some (Value.int z)) hM.d) dX3_draft_57 ?_
      refine lv_bipush (v := 8) hx hb dX3_draft_60 (by decide) ?_
      refine h_icmp_eq_n (a := dn) (b := 8) (tgt := 69) hx hb (by omega) (by omega) dX3_draft_62 (by decide) (fun c_2 => ?_) (fun c_2 => ?_)
      · -- taken
        refine lv_iconst (v := 2) hx hb dX3_draft_69 (by decide) ?_
        refine lv_goto (tgt := 74) hx hb dX3_draft_70 (by decide) ?_
        refine g_call1 (va_runV (As := [.int 2]) (rest := []) ⟨hx, hb, hml, hown, hts⟩ (c_X3_holds l x M 2) (cwV 1 hts gX3_draft_X3_holds rfl rfl rfl (by decide +kernel) ⟨Nat.le_of_ble_eq_true rfl, Nat.le_of_ble_eq_true rfl⟩) (g_preV hS hZ hP hV [.int 2] (id := 38) (by decide) rfl rfl) rfl rfl hl.1 rfl (lv_room (Nat.le_of_ble_eq_true rfl)) dX3_draft_74 ⟨Nat.le_of_ble_eq_true rfl, Nat.le_of_ble_eq_true rfl⟩) hV (fun H locs hP hV => ?_)
        have hM0 : OkM (up2 M 38 0 2) cn gn dn pn := hM.h0
        refine h_if_ne_b (tgt := 82) hx hb dX3_draft_77 (by decide) (fun c_3 => ?_) (fun c_3 => ?_)
        · -- taken
          exact absurd c_3 (by decide)
        · -- on
          refine lv_iconst (v := 0) hx hb dX3_draft_80 (by decide) ?_
          exact g_iret hx hb hr hlk hS hZ hP hV (Nat.le_of_ble_eq_true rfl) (Nat.le_of_ble_eq_true rfl) dX3_draft_81 (by exact (if_neg (fun z => absurd ((show cdDr M dn px py = 2 from by simp [cdDr, c_1, c_2, c_3]).symm.trans z) (by decide))).symm) (by have hcd := (show cdDr M dn px py = 2 from by simp [cdDr, c_1, c_2, c_3]); rw [if_neg (fun z => absurd (hcd.symm.trans z) (by decide)), hcd])
      · -- on
        refine lv_iload_n hx hb dX3_draft_65 rfl (lv_at hl 0 rfl) ?_
        refine h_if_eq_b (tgt := 73) hx hb dX3_draft_66 (by decide) (fun c_4 => ?_) (fun c_4 => ?_)
        · -- taken
          refine lv_iconst (v := 0) hx hb dX3_draft_73 (by decide) ?_
          refine g_call1 (va_runV (As := [.int 0]) (rest := []) ⟨hx, hb, hml, hown, hts⟩ (c_X3_holds l x M 0) (cwV 1 hts gX3_draft_X3_holds rfl rfl rfl (by decide +kernel) ⟨Nat.le_of_ble_eq_true rfl, Nat.le_of_ble_eq_true rfl⟩) (g_preV hS hZ hP hV [.int 0] (id := 38) (by decide) rfl rfl) rfl rfl hl.1 rfl (lv_room (Nat.le_of_ble_eq_true rfl)) dX3_draft_74 ⟨Nat.le_of_ble_eq_true rfl, Nat.le_of_ble_eq_true rfl⟩) hV (fun H locs hP hV => ?_)
          have hM0 : OkM (up2 M 38 0 0) cn gn dn pn := hM.h0
          refine h_if_ne_b (tgt := 82) hx hb dX3_draft_77 (by decide) (fun c_5 => ?_) (fun c_5 => ?_)
          · -- taken
            refine lv_aload_n hx hb dX3_draft_82 rfl (lv_at hl 1 rfl) ?_
            refine g_get (C := RX3) (T := TX3) (N := 22) (v := .ref (xa x 39)) hx hb hts hinX3 hown hS hP (id := 38) (by decide) rfl rfl 2 (by decide) hw_f7 rfl dX3_draft_83 ?_
            refine lv_aload_n hx hb dX3_draft_86 rfl (lv_at hl 1 rfl) ?_
            refine g_get (C := RX3) (T := TX3) (N := 22) (v := .int (nI dn)) hx hb hts hinX3 hown hS hP (id := 38) (by decide) rfl rfl 1 (by decide) hw_f77 (congrArg (fun z => some (Value.int z)) hM0.d) dX3_draft_87 ?_
            refine lv_iload_n hx hb dX3_draft_90 rfl (lv_at hl 2 rfl) ?_
            refine g_iast (j := dn) hx hb hS hP hV (id := 39) (by omega) (fun _ => rfl) (by decide) rfl (by omega) dX3_draft_91 (fun H locs hP hV => ?_)
            have hM2 : OkM (up2 (up2 M 38 0 0) 39 dn px) cn gn dn pn := hM0.up' (by omega) (by omega)
            refine lv_aload_n hx hb dX3_draft_92 rfl (lv_at hl 1 rfl) ?_
            refine g_get (C := RX3) (T := TX3) (N := 22) (v := .ref (xa x 40)) hx hb hts hinX3 hown hS hP (id := 38) (by decide) rfl rfl 3 (by decide) hw_f13 rfl dX3_draft_93 ?_
            refine lv_aload_n hx hb dX3_draft_96 rfl (lv_at hl 1 rfl) ?_
            refine g_get (C := RX3) (T := TX3) (N := 22) (v := .int (nI dn)) hx hb hts hinX3 hown hS hP (id := 38) (by decide) rfl rfl 1 (by decide) hw_f77 (congrArg (fun z => some (Value.int z)) hM2.d) dX3_draft_97 ?_
            refine lv_iload_n hx hb dX3_draft_100 rfl (lv_at hl 3 rfl) ?_
            refine g_iast (j := dn) hx hb hS hP hV (id := 40) (by omega) (fun _ => rfl) (by decide) rfl (by omega) dX3_draft_101 (fun H locs hP hV => ?_)
            have hM3 : OkM (up2 (up2 (up2 M 38 0 0) 39 dn px) 40 dn py) cn gn dn pn := hM2.up' (by omega) (by omega)
            refine lv_aload_n hx hb dX3_draft_102 rfl (lv_at hl 1 rfl) ?_
            refine lv_dup hx hb dX3_draft_103 rfl ?_
            refine g_get (C := RX3) (T := TX3) (N := 22) (v := .int (nI dn)) hx hb hts hinX3 hown hS hP (id := 38) (by decide) rfl rfl 1 (by decide) hw_f77 (congrArg (fun z => some (Value.int z)) hM3.d) dX3_draft_104 ?_
            refine lv_iconst (v := 1) hx hb dX3_draft_107 (by decide) ?_
            refine h_iadd (v := nI (dn + 1)) hx hb dX3_draft_108 (nI_add (dn) (1)) ?_
            refine g_put (C := RX3) (T := TX3) (N := 22) hx hb hts hinX3 tyX3 tyX3_ok nmX3 hown hS hP hV (id := 38) (by decide) rfl rfl 1 (by decide) hw_f77 rfl (by decide +kernel) (Nat.le_of_ble_eq_true rfl) rfl dX3_draft_109 (fun H locs hP hV => ?_)
            refine lv_aload_n hx hb dX3_draft_112 rfl (lv_at hl 1 rfl) ?_
            refine g_get (C := RX3) (T := TX3) (N := 22) (v := .int (nI (dn + 1))) hx hb hts hinX3 hown hS hP (id := 38) (by decide) rfl rfl 1 (by decide) hw_f77 (congrArg (fun z => some (Value.int z)) (rfl)) dX3_draft_113 ?_
            exact g_iret hx hb hr hlk hS hZ hP hV (Nat.le_of_ble_eq_true rfl) (Nat.le_of_ble_eq_true rfl) dX3_draft_116 (by refine Eq.trans ?_ (if_pos (show cdDr M dn px py = 0 from by simp [cdDr, c_1, c_2, c_4, c_5])).symm; rfl) (by refine Eq.trans ?_ (if_pos (show cdDr M dn px py = 0 from by simp [cdDr, c_1, c_2, c_4, c_5])).symm; rfl)
          · -- on
            exact absurd c_5 (by decide)
        · -- on
          refine lv_iconst (v := 2) hx hb dX3_draft_69 (by decide) ?_
          refine lv_goto (tgt := 74) hx hb dX3_draft_70 (by decide) ?_
          refine g_call1 (va_runV (As := [.int 2]) (rest := []) ⟨hx, hb, hml, hown, hts⟩ (c_X3_holds l x M 2) (cwV 1 hts gX3_draft_X3_holds rfl rfl rfl (by decide +kernel) ⟨Nat.le_of_ble_eq_true rfl, Nat.le_of_ble_eq_true rfl⟩) (g_preV hS hZ hP hV [.int 2] (id := 38) (by decide) rfl rfl) rfl rfl hl.1 rfl (lv_room (Nat.le_of_ble_eq_true rfl)) dX3_draft_74 ⟨Nat.le_of_ble_eq_true rfl, Nat.le_of_ble_eq_true rfl⟩) hV (fun H locs hP hV => ?_)
          have hM0 : OkM (up2 M 38 0 2) cn gn dn pn := hM.h0
          refine h_if_ne_b (tgt := 82) hx hb dX3_draft_77 (by decide) (fun c_6 => ?_) (fun c_6 => ?_)
          · -- taken
            exact absurd c_6 (by decide)
          · -- on
            refine lv_iconst (v := 0) hx hb dX3_draft_80 (by decide) ?_
            exact g_iret hx hb hr hlk hS hZ hP hV (Nat.le_of_ble_eq_true rfl) (Nat.le_of_ble_eq_true rfl) dX3_draft_81 (by exact (if_neg (fun z => absurd ((show cdDr M dn px py = 2 from by simp [cdDr, c_1, c_2, c_4, c_6]).symm.trans z) (by decide))).symm) (by have hcd := (show cdDr M dn px py = 2 from by simp [cdDr, c_1, c_2, c_4, c_6]); rw [if_neg (fun z => absurd (hcd.symm.trans z) (by decide)), hcd])
    · -- on
      refine lv_iconst (v := 1) hx hb dX3_draft_52 (by decide) ?_
      refine lv_goto (tgt := 74) hx hb dX3_draft_53 (by decide) ?_
      refine g_call1 (va_runV (As := [.int 1]) (rest := []) ⟨hx, hb, hml, hown, hts⟩ (c_X3_holds l x M 1) (cwV 1 hts gX3_draft_X3_holds rfl rfl rfl (by decide +kernel) ⟨Nat.le_of_ble_eq_true rfl, Nat.le_of_ble_eq_true rfl⟩) (g_preV hS hZ hP hV [.int 1] (id := 38) (by decide) rfl rfl) rfl rfl hl.1 rfl (lv_room (Nat.le_of_ble_eq_true rfl)) dX3_draft_74 ⟨Nat.le_of_ble_eq_true rfl, Nat.le_of_ble_eq_true rfl⟩) hV (fun H locs hP hV => ?_)
      have hM0 : OkM (up2 M 38 0 1) cn gn dn pn := hM.h0
      refine h_if_ne_b (tgt := 82) hx hb dX3_draft_77 (by decide) (fun c_7 => ?_) (fun c_7 => ?_)
      · -- taken
        exact absurd c_7 (by decide)
      · -- on
        refine lv_iconst (v := 0) hx hb dX3_draft_80 (by decide) ?_
        exact g_iret hx hb hr hlk hS hZ hP hV (Nat.le_of_ble_eq_true rfl) (Nat.le_of_ble_eq_true rfl) dX3_draft_81 (by exact (if_neg (fun z => absurd ((show cdDr M dn px py = 1 from by simp [cdDr, c_1, c_7]).symm.trans z) (by decide))).symm) (by have hcd := (show cdDr M dn px py = 1 from by simp [cdDr, c_1, c_7]); rw [if_neg (fun z => absurd (hcd.symm.trans z) (by decide)), hcd])
  refine lv_aload_n hx hb dX3_draft_0 rfl (lv_at hl 0 rfl) ?_
  refine g_get (C := RX3) (T := TX3) (N := 22) (v := .int (nI dn)) hx hb hts hinX3 hown hS hP (id := 38) (by decide) rfl rfl 1 (by decide) hw_f77 (congrArg (fun z => some (Value.int z)) hM.d) dX3_draft_1 ?_
  refine h_if_le_n (a := dn) (tgt := 41) hx hb (by omega) dX3_draft_4 (by decide) (fun c_8 => ?_) (fun c_8 => ?_)
  · -- taken
    refine lv_iconst (v := 0) hx hb dX3_draft_41 (by decide) ?_
    exact J_42 _ (by simp [sdM, bI, c_8] <;> omega) _ _ hP hV ls hl
  · -- on
    refine lv_aload_n hx hb dX3_draft_7 rfl (lv_at hl 0 rfl) ?_
    refine g_get (C := RX3) (T := TX3) (N := 22) (v := .ref (xa x 39)) hx hb hts hinX3 hown hS hP (id := 38) (by decide) rfl rfl 2 (by decide) hw_f7 rfl dX3_draft_8 ?_
    refine lv_aload_n hx hb dX3_draft_11 rfl (lv_at hl 0 rfl) ?_
    refine g_get (C := RX3) (T := TX3) (N := 22) (v := .int (nI dn)) hx hb hts hinX3 hown hS hP (id := 38) (by decide) rfl rfl 1 (by decide) hw_f77 (congrArg (fun z => some (Value.int z)) hM.d) dX3_draft_12 ?_
    refine lv_iconst (v := 1) hx hb dX3_draft_15 (by decide) ?_
    refine h_isub (v := nI (dn - 1)) hx hb dX3_draft_16 (pk_sub (a := dn) (b := 1) (by omega)) ?_
    refine g_iald (j := dn - 1) hx hb hS hP (id := 39) (by omega) ((fun _ => rfl) _) (by decide) rfl (by omega) dX3_draft_17 ?_
    refine lv_iload_n hx hb dX3_draft_18 rfl (lv_at hl 1 rfl) ?_
    refine lv_icmp_ne (tgt := 41) hx hb dX3_draft_19 (by decide) (fun c_9 => ?_) (fun c_9 => ?_)
    · -- taken
      refine lv_iconst (v := 0) hx hb dX3_draft_41 (by decide) ?_
      exact J_42 _ (by simp [sdM, bI, c_8, c_9] <;> omega) _ _ hP hV ls hl
    · -- on
      refine lv_aload_n hx hb dX3_draft_22 rfl (lv_at hl 0 rfl) ?_
      refine g_get (C := RX3) (T := TX3) (N := 22) (v := .ref (xa x 40)) hx hb hts hinX3 hown hS hP (id := 38) (by decide) rfl rfl 3 (by decide) hw_f13 rfl dX3_draft_23 ?_
      refine lv_aload_n hx hb dX3_draft_26 rfl (lv_at hl 0 rfl) ?_
      refine g_get (C := RX3) (T := TX3) (N := 22) (v := .int (nI dn)) hx hb hts hinX3 hown hS hP (id := 38) (by decide) rfl rfl 1 (by decide) hw_f77 (congrArg (fun z => some (Value.int z)) hM.d) dX3_draft_27 ?_
      refine lv_iconst (v := 1) hx hb dX3_draft_30 (by decide) ?_
      refine h_isub (v := nI (dn - 1)) hx hb dX3_draft_31 (pk_sub (a := dn) (b := 1) (by omega)) ?_
      refine g_iald (j := dn - 1) hx hb hS hP (id := 40) (by omega) ((fun _ => rfl) _) (by decide) rfl (by omega) dX3_draft_32 ?_
      refine lv_iload_n hx hb dX3_draft_33 rfl (lv_at hl 2 rfl) ?_
      refine lv_icmp_ne (tgt := 41) hx hb dX3_draft_34 (by decide) (fun c_10 => ?_) (fun c_10 => ?_)
      · -- taken
        refine lv_iconst (v := 0) hx hb dX3_draft_41 (by decide) ?_
        exact J_42 _ (by simp [sdM, bI, c_8, c_9, c_10] <;> omega) _ _ hP hV ls hl
      · -- on
        refine lv_iconst (v := 1) hx hb dX3_draft_37 (by decide) ?_
        refine lv_goto (tgt := 42) hx hb dX3_draft_38 (by decide) ?_
        exact J_42 _ (by simp [sdM, bI, c_8, c_9, c_10] <;> omega) _ _ hP hV ls hl
set_option maxHeartbeats 4000000 in
set_option maxRecDepth 100000 in
theorem c_X3_lay (l : Launch) (x : Cx) (M : Nat → Nat → Int32) (cn gn dn : Nat) (pn : Nat → Nat)  (hM : OkM M cn gn dn pn) : Met l yX3_lay wsX3_lay ({ frames := 1, cells := 0, slots := 0, locals := 21 }) (gP x M [.ref (xa x 38)]) (gQ x (some (.int (if cdLa cn dn = 0 then nI cn else 0))) (if cdLa cn dn = 0 then laM M cn dn else up2 M 38 0 (cdLa cn dn))) 0 0 (gF x) := by
  refine g_met (cc := cX3_lay) (maxL := 2) (ret := some .int) (by decide) rfl (Nat.le_of_ble_eq_true rfl) ?_
  intro p e s m below meth c hx hb hr hml hts hown hlk hS hZ hP hV ls hl
  have hl : lv_has ls 2 [(0, .ref (xa x 38))] := hl
  have hw_f77 := hts (.fieldLink RX3 77 "CableOfficeModel" "drafted" "I") (by decide +kernel)
  have hinX3 : ∀ w ∈ wsX30, w ∈ wsX3_lay := by decide +kernel
  have hw_f70 := hts (.fieldLink RX3 70 "CableOfficeModel" "cables" "I") (by decide +kernel)
  have hw_f16 := hts (.fieldLink RX3 16 "CableOfficeModel" "counts" "[I") (by decide +kernel)
  have hw_f19 := hts (.fieldLink RX3 19 "CableOfficeModel" "xs" "[I") (by decide +kernel)
  have hw_f7 := hts (.fieldLink RX3 7 "CableOfficeModel" "draftXs" "[I") (by decide +kernel)
  have hw_f22 := hts (.fieldLink RX3 22 "CableOfficeModel" "ys" "[I") (by decide +kernel)
  have hw_f13 := hts (.fieldLink RX3 13 "CableOfficeModel" "draftYs" "[I") (by decide +kernel)
  have hc8 := hM.c8
  have hg5 := hM.g5
  have hd8 := hM.d8
  refine lv_aload_n hx hb dX3_lay_0 rfl (lv_at hl 0 rfl) ?_
  refine lv_aload_n hx hb dX3_lay_1 rfl (lv_at hl 0 rfl) ?_
  refine g_get (C := RX3) (T := TX3) (N := 22) (v := .int (nI dn)) hx hb hts hinX3 hown hS hP (id := 38) (by decide) rfl rfl 1 (by decide) hw_f77 (congrArg (fun z => some (Value.int z)) hM.d) dX3_lay_2 ?_
  refine lv_iconst (v := 2) hx hb dX3_lay_5 (by decide) ?_
  refine h_icmp_lt_n (a := dn) (b := 2) (tgt := 18) hx hb (by omega) (by omega) dX3_lay_6 (by decide) (fun c_1 => ?_) (fun c_1 => ?_)
  · -- taken
    refine lv_iconst (v := 1) hx hb dX3_lay_18 (by decide) ?_
    refine lv_goto (tgt := 23) hx hb dX3_lay_19 (by decide) ?_
    refine g_call1 (va_runV (As := [.int 1]) (rest := []) ⟨hx, hb, hml, hown, hts⟩ (c_X3_holds l x M 1) (cwV 1 hts gX3_lay_X3_holds rfl rfl rfl (by decide +kernel) ⟨Nat.le_of_ble_eq_true rfl, Nat.le_of_ble_eq_true rfl⟩) (g_preV hS hZ hP hV [.int 1] (id := 38) (by decide) rfl rfl) rfl rfl hl.1 rfl (lv_room (Nat.le_of_ble_eq_true rfl)) dX3_lay_23 ⟨Nat.le_of_ble_eq_true rfl, Nat.le_of_ble_eq_true rfl⟩) hV (fun H locs hP hV => ?_)
    have hM0 : OkM (up2 M 38 0 1) cn gn dn pn := hM.h0
    refine h_if_ne_b (tgt := 31) hx hb dX3_lay_26 (by decide) (fun c_2 => ?_) (fun c_2 => ?_)
    · -- taken
      exact absurd c_2 (by decide)
    · -- on
      refine lv_iconst (v := 0) hx hb dX3_lay_29 (by decide) ?_
      exact g_iret hx hb hr hlk hS hZ hP hV (Nat.le_of_ble_eq_true rfl) (Nat.le_of_ble_eq_true rfl) dX3_lay_30 (by exact (if_neg (fun z => absurd ((show cdLa cn dn = 1 from by simp [cdLa, c_1, c_2]).symm.trans z) (by decide))).symm) (by have hcd := (show cdLa cn dn = 1 from by simp [cdLa, c_1, c_2]); rw [if_neg (fun z => absurd (hcd.symm.trans z) (by decide)), hcd])
  · -- on
    refine lv_aload_n hx hb dX3_lay_9 rfl (lv_at hl 0 rfl) ?_
    refine g_get (C := RX3) (T := TX3) (N := 22) (v := .int (nI cn)) hx hb hts hinX3 hown hS hP (id := 38) (by decide) rfl rfl 4 (by decide) hw_f70 (congrArg (fun z => some (Value.int z)) hM.c) dX3_lay_10 ?_
    refine lv_bipush (v := 8) hx hb dX3_lay_13 (by decide) ?_
    refine h_icmp_ne_n (a := cn) (b := 8) (tgt := 22) hx hb (by omega) (by omega) dX3_lay_15 (by decide) (fun c_3 => ?_) (fun c_3 => ?_)
    · -- taken
      refine lv_iconst (v := 0) hx hb dX3_lay_22 (by decide) ?_
      refine g_call1 (va_runV (As := [.int 0]) (rest := []) ⟨hx, hb, hml, hown, hts⟩ (c_X3_holds l x M 0) (cwV 1 hts gX3_lay_X3_holds rfl rfl rfl (by decide +kernel) ⟨Nat.le_of_ble_eq_true rfl, Nat.le_of_ble_eq_true rfl⟩) (g_preV hS hZ hP hV [.int 0] (id := 38) (by decide) rfl rfl) rfl rfl hl.1 rfl (lv_room (Nat.le_of_ble_eq_true rfl)) dX3_lay_23 ⟨Nat.le_of_ble_eq_true rfl, Nat.le_of_ble_eq_true rfl⟩) hV (fun H locs hP hV => ?_)
      have hM0 : OkM (up2 M 38 0 0) cn gn dn pn := hM.h0
      refine h_if_ne_b (tgt := 31) hx hb dX3_lay_26 (by decide) (fun c_4 => ?_) (fun c_4 => ?_)
      · -- taken
        refine lv_iconst (v := 0) hx hb dX3_lay_31 (by decide) ?_
        refine lv_istore_n (lv' := [(1, .int 0), (0, .ref (xa x 38))]) hx hb dX3_lay_32 rfl hl (by decide) rfl (fun ls hl => ?_)
        have lp_33 : ∀ (nn k : Nat), dn - k < nn → k ≤ dn → ∀ (H : Heap) (locs : List Loc), va_P (xD x) vwCl (wAll x (cpM (up2 M 38 0 0) cn k)) H → va_S (gF x) s.heap H locs → ∀ ls : Array Slot, lv_has ls 2 [(1, .int (nI k)), (0, .ref (xa x 38))] → W p l e ({ frames := 1, cells := 0, slots := 0, locals := 21 }) s m ([.ref (xa x 38)] : List Value).toArray below meth c H locs 0 0 (MQ below (gQ x (some (.int (if cdLa cn dn = 0 then nI cn else 0))) (if cdLa cn dn = 0 then laM M cn dn else up2 M 38 0 (cdLa cn dn))) ([.ref (xa x 38)] : List Value).toArray s 0 0 (gF x)) (F0 m 33 ls []) := by
          intro nn
          induction nn with
          | zero => intro k hz; exact absurd hz (Nat.not_lt_zero _)
          | succ nn ih_33 =>
            intro k hf_33 hk_33  H locs hP hV ls hl
            have hMk : OkM (cpM (up2 M 38 0 0) cn k) cn gn dn pn := cpM_ok hM0 k
            refine lv_iload_n hx hb dX3_lay_33 rfl (lv_at hl 0 rfl) ?_
            refine lv_aload_n hx hb dX3_lay_34 rfl (lv_at hl 1 rfl) ?_
            refine g_get (C := RX3) (T := TX3) (N := 22) (v := .int (nI dn)) hx hb hts hinX3 hown hS hP (id := 38) (by decide) rfl rfl 1 (by decide) hw_f77 (congrArg (fun z => some (Value.int z)) hMk.d) dX3_lay_35 ?_
            refine h_icmp_ge_n (a := k) (b := dn) (tgt := 87) hx hb (by omega) (by omega) dX3_lay_38 (by decide) (fun c_5 => ?_) (fun c_5 => ?_)
            · -- taken
              refine lv_aload_n hx hb dX3_lay_87 rfl (lv_at hl 1 rfl) ?_
              refine g_get (C := RX3) (T := TX3) (N := 22) (v := .ref (xa x 41)) hx hb hts hinX3 hown hS hP (id := 38) (by decide) rfl rfl 5 (by decide) hw_f16 rfl dX3_lay_88 ?_
              refine lv_aload_n hx hb dX3_lay_91 rfl (lv_at hl 1 rfl) ?_
              refine g_get (C := RX3) (T := TX3) (N := 22) (v := .int (nI cn)) hx hb hts hinX3 hown hS hP (id := 38) (by decide) rfl rfl 4 (by decide) hw_f70 (congrArg (fun z => some (Value.int z)) hMk.c) dX3_lay_92 ?_
              refine lv_aload_n hx hb dX3_lay_95 rfl (lv_at hl 1 rfl) ?_
              refine g_get (C := RX3) (T := TX3) (N := 22) (v := .int (nI dn)) hx hb hts hinX3 hown hS hP (id := 38) (by decide) rfl rfl 1 (by decide) hw_f77 (congrArg (fun z => some (Value.int z)) hMk.d) dX3_lay_96 ?_
              refine g_iast (j := cn) hx hb hS hP hV (id := 41) (by omega) (fun _ => rfl) (by decide) rfl (by omega) dX3_lay_99 (fun H locs hP hV => ?_)
              have hM7 : OkM (up2 (cpM (up2 M 38 0 0) cn k) 41 cn (nI dn)) cn gn dn pn := hMk.upc (Nat.le_refl _)
              refine lv_aload_n hx hb dX3_lay_100 rfl (lv_at hl 1 rfl) ?_
              refine lv_iconst (v := 0) hx hb dX3_lay_101 (by decide) ?_
              refine g_put (C := RX3) (T := TX3) (N := 22) hx hb hts hinX3 tyX3 tyX3_ok nmX3 hown hS hP hV (id := 38) (by decide) rfl rfl 1 (by decide) hw_f77 rfl (by decide +kernel) (Nat.le_of_ble_eq_true rfl) rfl dX3_lay_102 (fun H locs hP hV => ?_)
              refine lv_aload_n hx hb dX3_lay_105 rfl (lv_at hl 1 rfl) ?_
              refine lv_dup hx hb dX3_lay_106 rfl ?_
              refine g_get (C := RX3) (T := TX3) (N := 22) (v := .int (nI cn)) hx hb hts hinX3 hown hS hP (id := 38) (by decide) rfl rfl 4 (by decide) hw_f70 (congrArg (fun z => some (Value.int z)) (show _ = nI cn from hM7.c)) dX3_lay_107 ?_
              refine lv_iconst (v := 1) hx hb dX3_lay_110 (by decide) ?_
              refine h_iadd (v := nI (cn + 1)) hx hb dX3_lay_111 (nI_add (cn) (1)) ?_
              refine g_put (C := RX3) (T := TX3) (N := 22) hx hb hts hinX3 tyX3 tyX3_ok nmX3 hown hS hP hV (id := 38) (by decide) rfl rfl 4 (by decide) hw_f70 rfl (by decide +kernel) (Nat.le_of_ble_eq_true rfl) rfl dX3_lay_112 (fun H locs hP hV => ?_)
              refine lv_aload_n hx hb dX3_lay_115 rfl (lv_at hl 1 rfl) ?_
              refine g_get (C := RX3) (T := TX3) (N := 22) (v := .int (nI (cn + 1))) hx hb hts hinX3 hown hS hP (id := 38) (by decide) rfl rfl 4 (by decide) hw_f70 (congrArg (fun z => some (Value.int z)) (rfl)) dX3_lay_116 ?_
              refine lv_iconst (v := 1) hx hb dX3_lay_119 (by decide) ?_
              refine h_isub (v := nI cn) hx hb dX3_lay_120 (h_sub cn 1) ?_
              exact g_iret hx hb hr hlk hS hZ hP hV (Nat.le_of_ble_eq_true rfl) (Nat.le_of_ble_eq_true rfl) dX3_lay_121 (by refine Eq.trans ?_ (if_pos (show cdLa cn dn = 0 from by simp [cdLa, c_1, c_3, c_4, c_5])).symm; rfl) (by refine Eq.trans ?_ (if_pos (show cdLa cn dn = 0 from by simp [cdLa, c_1, c_3, c_4, c_5])).symm; rw [show k = dn by omega]; rfl)
            · -- on
              refine lv_aload_n hx hb dX3_lay_41 rfl (lv_at hl 1 rfl) ?_
              refine g_get (C := RX3) (T := TX3) (N := 22) (v := .ref (xa x 42)) hx hb hts hinX3 hown hS hP (id := 38) (by decide) rfl rfl 6 (by decide) hw_f19 rfl dX3_lay_42 ?_
              refine lv_bipush (v := 8) hx hb dX3_lay_45 (by decide) ?_
              refine lv_aload_n hx hb dX3_lay_47 rfl (lv_at hl 1 rfl) ?_
              refine g_get (C := RX3) (T := TX3) (N := 22) (v := .int (nI cn)) hx hb hts hinX3 hown hS hP (id := 38) (by decide) rfl rfl 4 (by decide) hw_f70 (congrArg (fun z => some (Value.int z)) hMk.c) dX3_lay_48 ?_
              refine h_imul (v := nI (8 * cn)) hx hb dX3_lay_51 (pk_mul (8) (cn)) ?_
              refine lv_iload_n hx hb dX3_lay_52 rfl (lv_at hl 0 rfl) ?_
              refine h_iadd (v := nI (8 * cn + k)) hx hb dX3_lay_53 (nI_add (8 * cn) (k)) ?_
              refine lv_aload_n hx hb dX3_lay_54 rfl (lv_at hl 1 rfl) ?_
              refine g_get (C := RX3) (T := TX3) (N := 22) (v := .ref (xa x 39)) hx hb hts hinX3 hown hS hP (id := 38) (by decide) rfl rfl 2 (by decide) hw_f7 rfl dX3_lay_55 ?_
              refine lv_iload_n hx hb dX3_lay_58 rfl (lv_at hl 0 rfl) ?_
              refine g_iald (j := k) hx hb hS hP (id := 39) (by omega) ((fun _ => rfl) _) (by decide) rfl (by omega) dX3_lay_59 ?_
              refine g_iast (j := 8 * cn + k) hx hb hS hP hV (id := 42) (by omega) (fun _ => rfl) (by decide) rfl (by omega) dX3_lay_60 (fun H locs hP hV => ?_)
              have hM91 : OkM (up2 (cpM (up2 M 38 0 0) cn k) 42 (8 * cn + k) ((cpM (up2 M 38 0 0) cn k) 39 k)) cn gn dn pn := hMk.up' (by omega) (by omega)
              refine lv_aload_n hx hb dX3_lay_61 rfl (lv_at hl 1 rfl) ?_
              refine g_get (C := RX3) (T := TX3) (N := 22) (v := .ref (xa x 43)) hx hb hts hinX3 hown hS hP (id := 38) (by decide) rfl rfl 7 (by decide) hw_f22 rfl dX3_lay_62 ?_
              refine lv_bipush (v := 8) hx hb dX3_lay_65 (by decide) ?_
              refine lv_aload_n hx hb dX3_lay_67 rfl (lv_at hl 1 rfl) ?_
              refine g_get (C := RX3) (T := TX3) (N := 22) (v := .int (nI cn)) hx hb hts hinX3 hown hS hP (id := 38) (by decide) rfl rfl 4 (by decide) hw_f70 (congrArg (fun z => some (Value.int z)) hM91.c) dX3_lay_68 ?_
              refine h_imul (v := nI (8 * cn)) hx hb dX3_lay_71 (pk_mul (8) (cn)) ?_
              refine lv_iload_n hx hb dX3_lay_72 rfl (lv_at hl 0 rfl) ?_
              refine h_iadd (v := nI (8 * cn + k)) hx hb dX3_lay_73 (nI_add (8 * cn) (k)) ?_
              refine lv_aload_n hx hb dX3_lay_74 rfl (lv_at hl 1 rfl) ?_
              refine g_get (C := RX3) (T := TX3) (N := 22) (v := .ref (xa x 40)) hx hb hts hinX3 hown hS hP (id := 38) (by decide) rfl rfl 3 (by decide) hw_f13 rfl dX3_lay_75 ?_
              refine lv_iload_n hx hb dX3_lay_78 rfl (lv_at hl 0 rfl) ?_
              refine g_iald (j := k) hx hb hS hP (id := 40) (by omega) ((fun _ => rfl) _) (by decide) rfl (by omega) dX3_lay_79 ?_
              refine g_iast (j := 8 * cn + k) hx hb hS hP hV (id := 43) (by omega) (fun _ => rfl) (by decide) rfl (by omega) dX3_lay_80 (fun H locs hP hV => ?_)
              have hM92 : OkM (up2 (up2 (cpM (up2 M 38 0 0) cn k) 42 (8 * cn + k) ((cpM (up2 M 38 0 0) cn k) 39 k)) 43 (8 * cn + k) ((up2 (cpM (up2 M 38 0 0) cn k) 42 (8 * cn + k) ((cpM (up2 M 38 0 0) cn k) 39 k)) 40 k)) cn gn dn pn := hM91.up' (by omega) (by omega)
              refine lv_iinc (v := nI (k + 1)) (lv' := [(1, .int (nI (k + 1))), (0, .ref (xa x 38))]) hx hb dX3_lay_81 hl (k := 0) rfl (nI_add (k) 1) (by decide) rfl (fun ls hl => ?_)
              refine lv_goto (tgt := 33) hx hb dX3_lay_84 (by decide) ?_
              exact ih_33 (k + 1) (by omega) (by omega)  _ _ (show va_P (xD x) vwCl (wAll x (cpM (up2 M 38 0 0) cn (k + 1))) _ from by exact hP) hV ls (lv_sub hl [0, 1] rfl)
        exact lp_33 (dn - (0) + 1) (0) (by omega) (by omega)  _ _ (show va_P (xD x) vwCl (wAll x (cpM (up2 M 38 0 0) cn 0)) _ from by exact hP) hV ls (lv_sub hl [0, 1] rfl)
      · -- on
        exact absurd c_4 (by decide)
    · -- on
      refine lv_iconst (v := 1) hx hb dX3_lay_18 (by decide) ?_
      refine lv_goto (tgt := 23) hx hb dX3_lay_19 (by decide) ?_
      refine g_call1 (va_runV (As := [.int 1]) (rest := []) ⟨hx, hb, hml, hown, hts⟩ (c_X3_holds l x M 1) (cwV 1 hts gX3_lay_X3_holds rfl rfl rfl (by decide +kernel) ⟨Nat.le_of_ble_eq_true rfl, Nat.le_of_ble_eq_true rfl⟩) (g_preV hS hZ hP hV [.int 1] (id := 38) (by decide) rfl rfl) rfl rfl hl.1 rfl (lv_room (Nat.le_of_ble_eq_true rfl)) dX3_lay_23 ⟨Nat.le_of_ble_eq_true rfl, Nat.le_of_ble_eq_true rfl⟩) hV (fun H locs hP hV => ?_)
      have hM0 : OkM (up2 M 38 0 1) cn gn dn pn := hM.h0
      refine h_if_ne_b (tgt := 31) hx hb dX3_lay_26 (by decide) (fun c_6 => ?_) (fun c_6 => ?_)
      · -- taken
        exact absurd c_6 (by decide)
      · -- on
        refine lv_iconst (v := 0) hx hb dX3_lay_29 (by decide) ?_
        exact g_iret hx hb hr hlk hS hZ hP hV (Nat.le_of_ble_eq_true rfl) (Nat.le_of_ble_eq_true rfl) dX3_lay_30 (by exact (if_neg (fun z => absurd ((show cdLa cn dn = 1 from by simp [cdLa, c_1, c_3, c_6]).symm.trans z) (by decide))).symm) (by have hcd := (show cdLa cn dn = 1 from by simp [cdLa, c_1, c_3, c_6]); rw [if_neg (fun z => absurd (hcd.symm.trans z) (by decide)), hcd])
set_option maxHeartbeats 4000000 in
set_option maxRecDepth 100000 in
theorem c_X3_errorOfMove (l : Launch) (x : Cx) (M : Nat → Nat → Int32) (cn gn dn : Nat) (pn : Nat → Nat) (a q px py : Int32) (hM : OkM M cn gn dn pn) : Met l yX3_errorOfMove wsX3_errorOfMove ({ frames := 3, cells := 0, slots := 0, locals := 65 }) (gP x M [.ref (xa x 38), .int a, .int q, .int px, .int py]) (gQ x (some (.int (cdMv M cn pn a q px py))) M) 0 0 (gF x) := by
  refine g_met (cc := cX3_errorOfMove) (maxL := 8) (ret := some .int) (by decide) rfl (Nat.le_of_ble_eq_true rfl) ?_
  intro p e s m below meth c hx hb hr hml hts hown hlk hS hZ hP hV ls hl
  have hl : lv_has ls 8 [(0, .ref (xa x 38)), (1, .int a), (2, .int q), (3, .int px), (4, .int py)] := hl
  have hw_f16 := hts (.fieldLink RX3 16 "CableOfficeModel" "counts" "[I") (by decide +kernel)
  have hinX3 : ∀ w ∈ wsX30, w ∈ wsX3_errorOfMove := by decide +kernel
  have hw_f19 := hts (.fieldLink RX3 19 "CableOfficeModel" "xs" "[I") (by decide +kernel)
  have hw_f22 := hts (.fieldLink RX3 22 "CableOfficeModel" "ys" "[I") (by decide +kernel)
  have hc8 := hM.c8
  have hg5 := hM.g5
  have hd8 := hM.d8
  refine lv_aload_n hx hb dX3_errorOfMove_0 rfl (lv_at hl 0 rfl) ?_
  refine lv_iload_n hx hb dX3_errorOfMove_1 rfl (lv_at hl 1 rfl) ?_
  refine lv_iload_n hx hb dX3_errorOfMove_2 rfl (lv_at hl 2 rfl) ?_
  refine g_call1 (va_runV (As := [.int a, .int q]) (rest := []) ⟨hx, hb, hml, hown, hts⟩ (c_X3_isPoint l x M cn gn dn pn a q hM) (cwV 2 hts gX3_errorOfMove_X3_isPoint rfl rfl rfl (by decide +kernel) ⟨Nat.le_of_ble_eq_true rfl, Nat.le_of_ble_eq_true rfl⟩) (g_preV hS hZ hP hV [.int a, .int q] (id := 38) (by decide) rfl rfl) rfl rfl hl.1 rfl (lv_room (Nat.le_of_ble_eq_true rfl)) dX3_errorOfMove_3 ⟨Nat.le_of_ble_eq_true rfl, Nat.le_of_ble_eq_true rfl⟩) hV (fun H locs hP hV => ?_)
  refine h_if_ne_b (tgt := 11) hx hb dX3_errorOfMove_6 (by decide) (fun c_1 => ?_) (fun c_1 => ?_)
  · -- taken
    obtain ⟨j, k, hj, ea, hk, eb⟩ := ptM_true hM.c8 hM.pp c_1
    rw [ea, eb] at hl
    have h7j := hM.p7 hj
    refine lv_iload_n hx hb dX3_errorOfMove_11 rfl (lv_at hl 3 rfl) ?_
    refine lv_iload hx hb dX3_errorOfMove_12 (lv_at hl 4 rfl) ?_
    refine g_call1 (va_runS (As := [.int px, .int py]) (rest := []) ⟨hx, hb, hml, hown, hts⟩ (c_X3_isPlace l x M px py) (va_cwS 2 hts gX3_errorOfMove_X3_isPlace rfl rfl rfl (by decide +kernel) ⟨Nat.le_of_ble_eq_true rfl, Nat.le_of_ble_eq_true rfl⟩) (g_preS hS hZ hP hV [.int px, .int py]) rfl rfl hl.1 rfl (lv_room (Nat.le_of_ble_eq_true rfl)) dX3_errorOfMove_14 ⟨Nat.le_of_ble_eq_true rfl, Nat.le_of_ble_eq_true rfl⟩) hV (fun H locs hP hV => ?_)
    refine h_if_ne_b (tgt := 22) hx hb dX3_errorOfMove_17 (by decide) (fun c_2 => ?_) (fun c_2 => ?_)
    · -- taken
      refine lv_bipush (v := 8) hx hb dX3_errorOfMove_22 (by decide) ?_
      refine lv_iload_n hx hb dX3_errorOfMove_24 rfl (lv_at hl 1 rfl) ?_
      refine h_imul (v := nI (8 * j)) hx hb dX3_errorOfMove_25 (pk_mul (8) (j)) ?_
      refine lv_iload_n hx hb dX3_errorOfMove_26 rfl (lv_at hl 2 rfl) ?_
      refine h_iadd (v := nI (8 * j + k)) hx hb dX3_errorOfMove_27 (nI_add (8 * j) (k)) ?_
      refine lv_istore (lv' := [(5, .int (nI (8 * j + k))), (0, .ref (xa x 38)), (1, .int (nI j)), (2, .int (nI k)), (3, .int px), (4, .int py)]) hx hb dX3_errorOfMove_28 hl (by decide) rfl (fun ls hl => ?_)
      have J_66 : ∀ v : Int32, v = bI (ahM M j k px py) → ∀ (H : Heap) (locs : List Loc), va_P (xD x) vwCl (wAll x M) H → va_S (gF x) s.heap H locs → ∀ ls : Array Slot, lv_has ls 8 [(5, .int (nI (8 * j + k))), (0, .ref (xa x 38)), (1, .int (nI j)), (2, .int (nI k)), (3, .int px), (4, .int py)] → W p l e ({ frames := 3, cells := 0, slots := 0, locals := 65 }) s m ([.ref (xa x 38), .int a, .int q, .int px, .int py] : List Value).toArray below meth c H locs 0 0 (MQ below (gQ x (some (.int (cdMv M cn pn a q px py))) M) ([.ref (xa x 38), .int a, .int q, .int px, .int py] : List Value).toArray s 0 0 (gF x)) (F0 m 66 ls (.int v :: [])) := by
        intro v hv H locs hP hV ls hl
        subst hv
        refine lv_istore (lv' := [(6, .int (bI (ahM M j k px py))), (5, .int (nI (8 * j + k))), (0, .ref (xa x 38)), (1, .int (nI j)), (2, .int (nI k)), (3, .int px), (4, .int py)]) hx hb dX3_errorOfMove_66 hl (by decide) rfl (fun ls hl => ?_)
        have J_112 : ∀ v : Int32, v = bI (bhM M pn j k px py) → ∀ (H : Heap) (locs : List Loc), va_P (xD x) vwCl (wAll x M) H → va_S (gF x) s.heap H locs → ∀ ls : Array Slot, lv_has ls 8 [(6, .int (bI (ahM M j k px py))), (5, .int (nI (8 * j + k))), (0, .ref (xa x 38)), (1, .int (nI j)), (2, .int (nI k)), (3, .int px), (4, .int py)] → W p l e ({ frames := 3, cells := 0, slots := 0, locals := 65 }) s m ([.ref (xa x 38), .int a, .int q, .int px, .int py] : List Value).toArray below meth c H locs 0 0 (MQ below (gQ x (some (.int (cdMv M cn pn a q px py))) M) ([.ref (xa x 38), .int a, .int q, .int px, .int py] : List Value).toArray s 0 0 (gF x)) (F0 m 112 ls (.int v :: [])) := by
          intro v hv H locs hP hV ls hl
          subst hv
          refine lv_istore (lv' := [(7, .int (bI (bhM M pn j k px py))), (6, .int (bI (ahM M j k px py))), (5, .int (nI (8 * j + k))), (0, .ref (xa x 38)), (1, .int (nI j)), (2, .int (nI k)), (3, .int px), (4, .int py)]) hx hb dX3_errorOfMove_112 hl (by decide) rfl (fun ls hl => ?_)
          refine lv_iload hx hb dX3_errorOfMove_114 (lv_at hl 1 rfl) ?_
          refine h_if_ne_b (tgt := 124) hx hb dX3_errorOfMove_116 (by decide) (fun c_3 => ?_) (fun c_3 => ?_)
          · -- taken
            refine lv_iconst (v := 3) hx hb dX3_errorOfMove_124 (by decide) ?_
            refine lv_goto (tgt := 129) hx hb dX3_errorOfMove_125 (by decide) ?_
            exact g_iret hx hb hr hlk hS hZ hP hV (Nat.le_of_ble_eq_true rfl) (Nat.le_of_ble_eq_true rfl) dX3_errorOfMove_129 (by subst ea; subst eb; simp [cdMv, c_1, c_2, c_3, tn_nI (show j < 2 ^ 31 by omega), tn_nI (show k < 2 ^ 31 by omega)]) (by rfl)
          · -- on
            refine lv_iload hx hb dX3_errorOfMove_119 (lv_at hl 0 rfl) ?_
            refine h_if_eq_b (tgt := 128) hx hb dX3_errorOfMove_121 (by decide) (fun c_4 => ?_) (fun c_4 => ?_)
            · -- taken
              refine lv_iconst (v := 0) hx hb dX3_errorOfMove_128 (by decide) ?_
              exact g_iret hx hb hr hlk hS hZ hP hV (Nat.le_of_ble_eq_true rfl) (Nat.le_of_ble_eq_true rfl) dX3_errorOfMove_129 (by subst ea; subst eb; simp [cdMv, c_1, c_2, c_3, c_4, tn_nI (show j < 2 ^ 31 by omega), tn_nI (show k < 2 ^ 31 by omega)]) (by rfl)
            · -- on
              refine lv_iconst (v := 3) hx hb dX3_errorOfMove_124 (by decide) ?_
              refine lv_goto (tgt := 129) hx hb dX3_errorOfMove_125 (by decide) ?_
              exact g_iret hx hb hr hlk hS hZ hP hV (Nat.le_of_ble_eq_true rfl) (Nat.le_of_ble_eq_true rfl) dX3_errorOfMove_129 (by subst ea; subst eb; simp [cdMv, c_1, c_2, c_3, c_4, tn_nI (show j < 2 ^ 31 by omega), tn_nI (show k < 2 ^ 31 by omega)]) (by rfl)
        refine lv_iload_n hx hb dX3_errorOfMove_68 rfl (lv_at hl 4 rfl) ?_
        refine lv_aload_n hx hb dX3_errorOfMove_69 rfl (lv_at hl 2 rfl) ?_
        refine g_get (C := RX3) (T := TX3) (N := 22) (v := .ref (xa x 41)) hx hb hts hinX3 hown hS hP (id := 38) (by decide) rfl rfl 5 (by decide) hw_f16 rfl dX3_errorOfMove_70 ?_
        refine lv_iload_n hx hb dX3_errorOfMove_73 rfl (lv_at hl 3 rfl) ?_
        refine g_iald (j := j) hx hb hS hP (id := 41) (by omega) ((fun _ => rfl) _) (by decide) rfl (by omega) dX3_errorOfMove_74 ?_
        rw [(hM.p (by omega))]
        refine lv_iconst (v := 1) hx hb dX3_errorOfMove_75 (by decide) ?_
        refine h_isub (v := nI (pn j)) hx hb dX3_errorOfMove_76 (h_sub (pn j) 1) ?_
        refine h_icmp_ge_n (a := k) (b := pn j) (tgt := 111) hx hb (by omega) (by omega) dX3_errorOfMove_77 (by decide) (fun c_5 => ?_) (fun c_5 => ?_)
        · -- taken
          refine lv_iconst (v := 0) hx hb dX3_errorOfMove_111 (by decide) ?_
          exact J_112 _ (by simp [bhM, bI, c_1, c_2, c_5] <;> omega) _ _ hP hV ls hl
        · -- on
          refine lv_aload_n hx hb dX3_errorOfMove_80 rfl (lv_at hl 2 rfl) ?_
          refine g_get (C := RX3) (T := TX3) (N := 22) (v := .ref (xa x 42)) hx hb hts hinX3 hown hS hP (id := 38) (by decide) rfl rfl 6 (by decide) hw_f19 rfl dX3_errorOfMove_81 ?_
          refine lv_iload hx hb dX3_errorOfMove_84 (lv_at hl 1 rfl) ?_
          refine lv_iconst (v := 1) hx hb dX3_errorOfMove_86 (by decide) ?_
          refine h_iadd (v := nI (8 * j + k + 1)) hx hb dX3_errorOfMove_87 (nI_add (8 * j + k) (1)) ?_
          refine g_iald (j := 8 * j + k + 1) hx hb hS hP (id := 42) (by omega) ((fun _ => rfl) _) (by decide) rfl (by omega) dX3_errorOfMove_88 ?_
          refine lv_iload_n hx hb dX3_errorOfMove_89 rfl (lv_at hl 5 rfl) ?_
          refine lv_icmp_ne (tgt := 111) hx hb dX3_errorOfMove_90 (by decide) (fun c_6 => ?_) (fun c_6 => ?_)
          · -- taken
            refine lv_iconst (v := 0) hx hb dX3_errorOfMove_111 (by decide) ?_
            exact J_112 _ (by simp [bhM, bI, c_1, c_2, c_5, c_6] <;> omega) _ _ hP hV ls hl
          · -- on
            refine lv_aload_n hx hb dX3_errorOfMove_93 rfl (lv_at hl 2 rfl) ?_
            refine g_get (C := RX3) (T := TX3) (N := 22) (v := .ref (xa x 43)) hx hb hts hinX3 hown hS hP (id := 38) (by decide) rfl rfl 7 (by decide) hw_f22 rfl dX3_errorOfMove_94 ?_
            refine lv_iload hx hb dX3_errorOfMove_97 (lv_at hl 1 rfl) ?_
            refine lv_iconst (v := 1) hx hb dX3_errorOfMove_99 (by decide) ?_
            refine h_iadd (v := nI (8 * j + k + 1)) hx hb dX3_errorOfMove_100 (nI_add (8 * j + k) (1)) ?_
            refine g_iald (j := 8 * j + k + 1) hx hb hS hP (id := 43) (by omega) ((fun _ => rfl) _) (by decide) rfl (by omega) dX3_errorOfMove_101 ?_
            refine lv_iload hx hb dX3_errorOfMove_102 (lv_at hl 6 rfl) ?_
            refine lv_icmp_ne (tgt := 111) hx hb dX3_errorOfMove_104 (by decide) (fun c_7 => ?_) (fun c_7 => ?_)
            · -- taken
              refine lv_iconst (v := 0) hx hb dX3_errorOfMove_111 (by decide) ?_
              exact J_112 _ (by simp [bhM, bI, c_1, c_2, c_5, c_6, c_7] <;> omega) _ _ hP hV ls hl
            · -- on
              refine lv_iconst (v := 1) hx hb dX3_errorOfMove_107 (by decide) ?_
              refine lv_goto (tgt := 112) hx hb dX3_errorOfMove_108 (by decide) ?_
              exact J_112 _ (by simp [bhM, bI, c_1, c_2, c_5, c_6, c_7] <;> omega) _ _ hP hV ls hl
      refine lv_iload_n hx hb dX3_errorOfMove_30 rfl (lv_at hl 3 rfl) ?_
      refine h_if_le_n (a := k) (tgt := 65) hx hb (by omega) dX3_errorOfMove_31 (by decide) (fun c_8 => ?_) (fun c_8 => ?_)
      · -- taken
        refine lv_iconst (v := 0) hx hb dX3_errorOfMove_65 (by decide) ?_
        exact J_66 _ (by simp [ahM, bI, c_1, c_2, c_8] <;> omega) _ _ hP hV ls hl
      · -- on
        refine lv_aload_n hx hb dX3_errorOfMove_34 rfl (lv_at hl 1 rfl) ?_
        refine g_get (C := RX3) (T := TX3) (N := 22) (v := .ref (xa x 42)) hx hb hts hinX3 hown hS hP (id := 38) (by decide) rfl rfl 6 (by decide) hw_f19 rfl dX3_errorOfMove_35 ?_
        refine lv_iload hx hb dX3_errorOfMove_38 (lv_at hl 0 rfl) ?_
        refine lv_iconst (v := 1) hx hb dX3_errorOfMove_40 (by decide) ?_
        refine h_isub (v := nI (8 * j + k - 1)) hx hb dX3_errorOfMove_41 (pk_sub (a := 8 * j + k) (b := 1) (by omega)) ?_
        refine g_iald (j := 8 * j + k - 1) hx hb hS hP (id := 42) (by omega) ((fun _ => rfl) _) (by decide) rfl (by omega) dX3_errorOfMove_42 ?_
        refine lv_iload_n hx hb dX3_errorOfMove_43 rfl (lv_at hl 4 rfl) ?_
        refine lv_icmp_ne (tgt := 65) hx hb dX3_errorOfMove_44 (by decide) (fun c_9 => ?_) (fun c_9 => ?_)
        · -- taken
          refine lv_iconst (v := 0) hx hb dX3_errorOfMove_65 (by decide) ?_
          exact J_66 _ (by simp [ahM, bI, c_1, c_2, c_8, c_9] <;> omega) _ _ hP hV ls hl
        · -- on
          refine lv_aload_n hx hb dX3_errorOfMove_47 rfl (lv_at hl 1 rfl) ?_
          refine g_get (C := RX3) (T := TX3) (N := 22) (v := .ref (xa x 43)) hx hb hts hinX3 hown hS hP (id := 38) (by decide) rfl rfl 7 (by decide) hw_f22 rfl dX3_errorOfMove_48 ?_
          refine lv_iload hx hb dX3_errorOfMove_51 (lv_at hl 0 rfl) ?_
          refine lv_iconst (v := 1) hx hb dX3_errorOfMove_53 (by decide) ?_
          refine h_isub (v := nI (8 * j + k - 1)) hx hb dX3_errorOfMove_54 (pk_sub (a := 8 * j + k) (b := 1) (by omega)) ?_
          refine g_iald (j := 8 * j + k - 1) hx hb hS hP (id := 43) (by omega) ((fun _ => rfl) _) (by decide) rfl (by omega) dX3_errorOfMove_55 ?_
          refine lv_iload hx hb dX3_errorOfMove_56 (lv_at hl 5 rfl) ?_
          refine lv_icmp_ne (tgt := 65) hx hb dX3_errorOfMove_58 (by decide) (fun c_10 => ?_) (fun c_10 => ?_)
          · -- taken
            refine lv_iconst (v := 0) hx hb dX3_errorOfMove_65 (by decide) ?_
            exact J_66 _ (by simp [ahM, bI, c_1, c_2, c_8, c_9, c_10] <;> omega) _ _ hP hV ls hl
          · -- on
            refine lv_iconst (v := 1) hx hb dX3_errorOfMove_61 (by decide) ?_
            refine lv_goto (tgt := 66) hx hb dX3_errorOfMove_62 (by decide) ?_
            exact J_66 _ (by simp [ahM, bI, c_1, c_2, c_8, c_9, c_10] <;> omega) _ _ hP hV ls hl
    · -- on
      refine lv_iconst (v := 2) hx hb dX3_errorOfMove_20 (by decide) ?_
      exact g_iret hx hb hr hlk hS hZ hP hV (Nat.le_of_ble_eq_true rfl) (Nat.le_of_ble_eq_true rfl) dX3_errorOfMove_21 (by subst ea; subst eb; simp [cdMv, c_1, c_2, tn_nI (show j < 2 ^ 31 by omega), tn_nI (show k < 2 ^ 31 by omega)]) (by rfl)
  · -- on
    refine lv_iconst (v := 1) hx hb dX3_errorOfMove_9 (by decide) ?_
    exact g_iret hx hb hr hlk hS hZ hP hV (Nat.le_of_ble_eq_true rfl) (Nat.le_of_ble_eq_true rfl) dX3_errorOfMove_10 (by simp [cdMv, c_1]) (by rfl)
set_option maxHeartbeats 4000000 in
set_option maxRecDepth 100000 in
theorem c_X3_move (l : Launch) (x : Cx) (M : Nat → Nat → Int32) (cn gn dn : Nat) (pn : Nat → Nat) (a q px py : Int32) (hM : OkM M cn gn dn pn) : Met l yX3_move wsX3_move ({ frames := 6, cells := 0, slots := 0, locals := 157 }) (gP x M [.ref (xa x 38), .int a, .int q, .int px, .int py]) (gQ x (some (.int (if cdMv M cn pn a q px py = 0 then nI (mwC (mw0 M (tn a) (tn q) px py) pn (tn a) cn) else 0))) (if cdMv M cn pn a q px py = 0 then mwM (mw0 M (tn a) (tn q) px py) pn (tn a) cn else up2 M 38 0 (cdMv M cn pn a q px py))) 0 0 (gF x) := by
  refine g_met (cc := cX3_move) (maxL := 7) (ret := some .int) (by decide) rfl (Nat.le_of_ble_eq_true rfl) ?_
  intro p e s m below meth c hx hb hr hml hts hown hlk hS hZ hP hV ls hl
  have hl : lv_has ls 7 [(0, .ref (xa x 38)), (1, .int a), (2, .int q), (3, .int px), (4, .int py)] := hl
  have hw_f19 := hts (.fieldLink RX3 19 "CableOfficeModel" "xs" "[I") (by decide +kernel)
  have hinX3 : ∀ w ∈ wsX30, w ∈ wsX3_move := by decide +kernel
  have hw_f22 := hts (.fieldLink RX3 22 "CableOfficeModel" "ys" "[I") (by decide +kernel)
  have hw_f70 := hts (.fieldLink RX3 70 "CableOfficeModel" "cables" "I") (by decide +kernel)
  have hw_f25 := hts (.fieldLink RX3 25 "CableOfficeModel" "areAgreed" "[Z") (by decide +kernel)
  have hc8 := hM.c8
  have hg5 := hM.g5
  have hd8 := hM.d8
  refine lv_aload_n hx hb dX3_move_0 rfl (lv_at hl 0 rfl) ?_
  refine lv_aload_n hx hb dX3_move_1 rfl (lv_at hl 0 rfl) ?_
  refine lv_iload_n hx hb dX3_move_2 rfl (lv_at hl 1 rfl) ?_
  refine lv_iload_n hx hb dX3_move_3 rfl (lv_at hl 2 rfl) ?_
  refine lv_iload_n hx hb dX3_move_4 rfl (lv_at hl 3 rfl) ?_
  refine lv_iload hx hb dX3_move_5 (lv_at hl 4 rfl) ?_
  refine g_call1 (va_runV (As := [.int a, .int q, .int px, .int py]) (rest := [.ref (xa x 38)]) ⟨hx, hb, hml, hown, hts⟩ (c_X3_errorOfMove l x M cn gn dn pn a q px py hM) (cwV 4 hts gX3_move_X3_errorOfMove rfl rfl rfl (by decide +kernel) ⟨Nat.le_of_ble_eq_true rfl, Nat.le_of_ble_eq_true rfl⟩) (g_preV hS hZ hP hV [.int a, .int q, .int px, .int py] (id := 38) (by decide) rfl rfl) rfl rfl hl.1 rfl (lv_room (Nat.le_of_ble_eq_true rfl)) dX3_move_7 ⟨Nat.le_of_ble_eq_true rfl, Nat.le_of_ble_eq_true rfl⟩) hV (fun H locs hP hV => ?_)
  refine g_call1 (va_runV (As := [.int (cdMv M cn pn a q px py)]) (rest := []) ⟨hx, hb, hml, hown, hts⟩ (c_X3_holds l x M (cdMv M cn pn a q px py)) (cwV 1 hts gX3_move_X3_holds rfl rfl rfl (by decide +kernel) ⟨Nat.le_of_ble_eq_true rfl, Nat.le_of_ble_eq_true rfl⟩) (g_preV hS hZ hP hV [.int (cdMv M cn pn a q px py)] (id := 38) (by decide) rfl rfl) rfl rfl hl.1 rfl (lv_room (Nat.le_of_ble_eq_true rfl)) dX3_move_10 ⟨Nat.le_of_ble_eq_true rfl, Nat.le_of_ble_eq_true rfl⟩) hV (fun H locs hP hV => ?_)
  have hM0 : OkM (up2 M 38 0 (cdMv M cn pn a q px py)) cn gn dn pn := hM.h0
  refine h_if_ne_b (tgt := 18) hx hb dX3_move_13 (by decide) (fun c_1 => ?_) (fun c_1 => ?_)
  · -- taken
    have hc0 : cdMv M cn pn a q px py = 0 := of_decide_eq_true c_1
    rw [hc0] at hP
    have hM0 : OkM (up2 M 38 0 0) cn gn dn pn := hM.h0
    obtain ⟨j, k, hj, ea, hk, eb⟩ := ptM_true hM.c8 hM.pp (cdMv_pt hc0)
    rw [ea, eb] at hl
    have h7j := hM.p7 hj
    refine lv_aload_n hx hb dX3_move_18 rfl (lv_at hl 0 rfl) ?_
    refine g_get (C := RX3) (T := TX3) (N := 22) (v := .ref (xa x 42)) hx hb hts hinX3 hown hS hP (id := 38) (by decide) rfl rfl 6 (by decide) hw_f19 rfl dX3_move_19 ?_
    refine lv_bipush (v := 8) hx hb dX3_move_22 (by decide) ?_
    refine lv_iload_n hx hb dX3_move_24 rfl (lv_at hl 1 rfl) ?_
    refine h_imul (v := nI (8 * j)) hx hb dX3_move_25 (pk_mul (8) (j)) ?_
    refine lv_iload_n hx hb dX3_move_26 rfl (lv_at hl 2 rfl) ?_
    refine h_iadd (v := nI (8 * j + k)) hx hb dX3_move_27 (nI_add (8 * j) (k)) ?_
    refine lv_iload_n hx hb dX3_move_28 rfl (lv_at hl 3 rfl) ?_
    refine g_iast (j := 8 * j + k) hx hb hS hP hV (id := 42) (by omega) (fun _ => rfl) (by decide) rfl (by omega) dX3_move_29 (fun H locs hP hV => ?_)
    refine lv_aload_n hx hb dX3_move_30 rfl (lv_at hl 0 rfl) ?_
    refine g_get (C := RX3) (T := TX3) (N := 22) (v := .ref (xa x 43)) hx hb hts hinX3 hown hS hP (id := 38) (by decide) rfl rfl 7 (by decide) hw_f22 rfl dX3_move_31 ?_
    refine lv_bipush (v := 8) hx hb dX3_move_34 (by decide) ?_
    refine lv_iload_n hx hb dX3_move_36 rfl (lv_at hl 1 rfl) ?_
    refine h_imul (v := nI (8 * j)) hx hb dX3_move_37 (pk_mul (8) (j)) ?_
    refine lv_iload_n hx hb dX3_move_38 rfl (lv_at hl 2 rfl) ?_
    refine h_iadd (v := nI (8 * j + k)) hx hb dX3_move_39 (nI_add (8 * j) (k)) ?_
    refine lv_iload hx hb dX3_move_40 (lv_at hl 4 rfl) ?_
    refine g_iast (j := 8 * j + k) hx hb hS hP hV (id := 43) (by omega) (fun _ => rfl) (by decide) rfl (by omega) dX3_move_42 (fun H locs hP hV => ?_)
    have hM3 : OkM (mw0 M j k px py) cn gn dn pn := (hM0.up (by omega)).up (by omega)
    refine lv_iconst (v := 0) hx hb dX3_move_43 (by decide) ?_
    refine lv_istore (lv' := [(5, .int 0), (0, .ref (xa x 38)), (1, .int (nI j)), (2, .int (nI k)), (3, .int px), (4, .int py)]) hx hb dX3_move_44 hl (by decide) rfl (fun ls hl => ?_)
    refine lv_iconst (v := 0) hx hb dX3_move_46 (by decide) ?_
    refine lv_istore (lv' := [(6, .int 0), (5, .int 0), (0, .ref (xa x 38)), (1, .int (nI j)), (2, .int (nI k)), (3, .int px), (4, .int py)]) hx hb dX3_move_47 hl (by decide) rfl (fun ls hl => ?_)
    have lp_49 : ∀ (nn t : Nat), cn - t < nn → t ≤ cn → ∀ (H : Heap) (locs : List Loc), va_P (xD x) vwCl (wAll x (mwM (mw0 M j k px py) pn j t)) H → va_S (gF x) s.heap H locs → ∀ ls : Array Slot, lv_has ls 7 [(6, .int (nI t)), (5, .int (nI (mwC (mw0 M j k px py) pn j t))), (0, .ref (xa x 38)), (1, .int (nI j))] → W p l e ({ frames := 6, cells := 0, slots := 0, locals := 157 }) s m ([.ref (xa x 38), .int a, .int q, .int px, .int py] : List Value).toArray below meth c H locs 0 0 (MQ below (gQ x (some (.int (if cdMv M cn pn a q px py = 0 then nI (mwC (mw0 M (tn a) (tn q) px py) pn (tn a) cn) else 0))) (if cdMv M cn pn a q px py = 0 then mwM (mw0 M (tn a) (tn q) px py) pn (tn a) cn else up2 M 38 0 (cdMv M cn pn a q px py))) ([.ref (xa x 38), .int a, .int q, .int px, .int py] : List Value).toArray s 0 0 (gF x)) (F0 m 49 ls []) := by
      intro nn
      induction nn with
      | zero => intro t hz; exact absurd hz (Nat.not_lt_zero _)
      | succ nn ih_49 =>
        intro t hf_49 hk_49  H locs hP hV ls hl
        have hMt : OkM (mwM (mw0 M j k px py) pn j t) cn gn dn pn := mwM_ok hM3 t
        refine lv_iload hx hb dX3_move_49 (lv_at hl 0 rfl) ?_
        refine lv_aload_n hx hb dX3_move_51 rfl (lv_at hl 2 rfl) ?_
        refine g_get (C := RX3) (T := TX3) (N := 22) (v := .int (nI cn)) hx hb hts hinX3 hown hS hP (id := 38) (by decide) rfl rfl 4 (by decide) hw_f70 (congrArg (fun z => some (Value.int z)) hMt.c) dX3_move_52 ?_
        refine h_icmp_ge_n (a := t) (b := cn) (tgt := 100) hx hb (by omega) (by omega) dX3_move_55 (by decide) (fun c_2 => ?_) (fun c_2 => ?_)
        · -- taken
          refine lv_iload hx hb dX3_move_100 (lv_at hl 1 rfl) ?_
          exact g_iret hx hb hr hlk hS hZ hP hV (Nat.le_of_ble_eq_true rfl) (Nat.le_of_ble_eq_true rfl) dX3_move_102 (by refine Eq.trans ?_ (if_pos hc0).symm; subst ea; subst eb; simp only [tn_nI (show j < 2 ^ 31 by omega), tn_nI (show k < 2 ^ 31 by omega)]; rw [show t = cn by omega]) (by refine Eq.trans ?_ (if_pos hc0).symm; subst ea; subst eb; simp only [tn_nI (show j < 2 ^ 31 by omega), tn_nI (show k < 2 ^ 31 by omega)]; rw [show t = cn by omega])
        · -- on
          refine lv_aload_n hx hb dX3_move_58 rfl (lv_at hl 2 rfl) ?_
          refine g_get (C := RX3) (T := TX3) (N := 22) (v := .ref (xa x 44)) hx hb hts hinX3 hown hS hP (id := 38) (by decide) rfl rfl 8 (by decide) hw_f25 rfl dX3_move_59 ?_
          refine lv_bipush (v := 8) hx hb dX3_move_62 (by decide) ?_
          refine lv_iload_n hx hb dX3_move_64 rfl (lv_at hl 3 rfl) ?_
          refine h_imul (v := nI (8 * j)) hx hb dX3_move_65 (pk_mul (8) (j)) ?_
          refine lv_iload hx hb dX3_move_66 (lv_at hl 0 rfl) ?_
          refine h_iadd (v := nI (8 * j + t)) hx hb dX3_move_68 (nI_add (8 * j) (t)) ?_
          refine g_zald (j := 8 * j + t) hx hb hS hP (id := 44) (by omega) ((fun _ => rfl) _) (by decide) rfl (by omega) dX3_move_69 ?_
          refine lv_if_eq (tgt := 94) hx hb dX3_move_70 (by decide) (fun c_3 => ?_) (fun c_3 => ?_)
          · -- taken
            refine lv_iinc (v := nI (t + 1)) (lv' := [(6, .int (nI (t + 1))), (5, .int (nI (mwC (mw0 M j k px py) pn j t))), (0, .ref (xa x 38)), (1, .int (nI j))]) hx hb dX3_move_94 hl (k := 0) rfl (nI_add (t) 1) (by decide) rfl (fun ls hl => ?_)
            refine lv_goto (tgt := 49) hx hb dX3_move_97 (by decide) ?_
            exact ih_49 (t + 1) (by omega) (by omega)  _ _ (show va_P (xD x) vwCl (wAll x (mwM (mw0 M j k px py) pn j (t + 1))) _ from by rw [show mwM (mw0 M j k px py) pn j (t + 1) = mwM (mw0 M j k px py) pn j t from by simp [mwM, fallM, c_1, c_2, c_3]]; exact hP) hV ls (lv_sub hl [0, 1, 2, 3] (show ([(6, .int (nI (t + 1))), (5, .int (nI (mwC (mw0 M j k px py) pn j t))), (0, .ref (xa x 38)), (1, .int (nI j))] : List (Nat × Value)) = [(6, .int (nI (t + 1))), (5, .int (nI (mwC (mw0 M j k px py) pn j (t + 1)))), (0, .ref (xa x 38)), (1, .int (nI j))] from by simp [mwC, fallM, c_1, c_2, c_3]))
          · -- on
            refine lv_aload_n hx hb dX3_move_73 rfl (lv_at hl 2 rfl) ?_
            refine lv_iload_n hx hb dX3_move_74 rfl (lv_at hl 3 rfl) ?_
            refine lv_iload hx hb dX3_move_75 (lv_at hl 0 rfl) ?_
            refine g_call1 (va_runV (As := [.int (nI j), .int (nI t)]) (rest := []) ⟨hx, hb, hml, hown, hts⟩ (c_X3_isWellNow l x (mwM (mw0 M j k px py) pn j t) cn gn dn pn j t hMt (by omega) (by omega)) (cwV 2 hts gX3_move_X3_isWellNow rfl rfl rfl (by decide +kernel) ⟨Nat.le_of_ble_eq_true rfl, Nat.le_of_ble_eq_true rfl⟩) (g_preV hS hZ hP hV [.int (nI j), .int (nI t)] (id := 38) (by decide) rfl rfl) rfl rfl hl.1 rfl (lv_room (Nat.le_of_ble_eq_true rfl)) dX3_move_77 ⟨Nat.le_of_ble_eq_true rfl, Nat.le_of_ble_eq_true rfl⟩) hV (fun H locs hP hV => ?_)
            refine h_if_ne_b (tgt := 94) hx hb dX3_move_80 (by decide) (fun c_4 => ?_) (fun c_4 => ?_)
            · -- taken
              refine lv_iinc (v := nI (t + 1)) (lv' := [(6, .int (nI (t + 1))), (5, .int (nI (mwC (mw0 M j k px py) pn j t))), (0, .ref (xa x 38)), (1, .int (nI j))]) hx hb dX3_move_94 hl (k := 0) rfl (nI_add (t) 1) (by decide) rfl (fun ls hl => ?_)
              refine lv_goto (tgt := 49) hx hb dX3_move_97 (by decide) ?_
              exact ih_49 (t + 1) (by omega) (by omega)  _ _ (show va_P (xD x) vwCl (wAll x (mwM (mw0 M j k px py) pn j (t + 1))) _ from by rw [show mwM (mw0 M j k px py) pn j (t + 1) = mwM (mw0 M j k px py) pn j t from by simp [mwM, fallM, c_1, c_2, c_3, c_4]]; exact hP) hV ls (lv_sub hl [0, 1, 2, 3] (show ([(6, .int (nI (t + 1))), (5, .int (nI (mwC (mw0 M j k px py) pn j t))), (0, .ref (xa x 38)), (1, .int (nI j))] : List (Nat × Value)) = [(6, .int (nI (t + 1))), (5, .int (nI (mwC (mw0 M j k px py) pn j (t + 1)))), (0, .ref (xa x 38)), (1, .int (nI j))] from by simp [mwC, fallM, c_1, c_2, c_3, c_4]))
            · -- on
              refine lv_aload_n hx hb dX3_move_83 rfl (lv_at hl 2 rfl) ?_
              refine lv_iload_n hx hb dX3_move_84 rfl (lv_at hl 3 rfl) ?_
              refine lv_iload hx hb dX3_move_85 (lv_at hl 0 rfl) ?_
              refine lv_iconst (v := 0) hx hb dX3_move_87 (by decide) ?_
              refine g_call0 (va_runV (As := [.int (nI j), .int (nI t), .int 0]) (rest := []) ⟨hx, hb, hml, hown, hts⟩ (c_X3_agrees l x (mwM (mw0 M j k px py) pn j t) j t false (by omega) (by omega)) (cwV 3 hts gX3_move_X3_agrees rfl rfl rfl (by decide +kernel) ⟨Nat.le_of_ble_eq_true rfl, Nat.le_of_ble_eq_true rfl⟩) (g_preV hS hZ hP hV [.int (nI j), .int (nI t), .int 0] (id := 38) (by decide) rfl rfl) rfl rfl hl.1 rfl (lv_room (Nat.le_of_ble_eq_true rfl)) dX3_move_88 ⟨Nat.le_of_ble_eq_true rfl, Nat.le_of_ble_eq_true rfl⟩) hV (fun H locs hP hV => ?_)
              refine lv_iinc (v := nI ((mwC (mw0 M j k px py) pn j t) + 1)) (lv' := [(5, .int (nI ((mwC (mw0 M j k px py) pn j t) + 1))), (6, .int (nI t)), (0, .ref (xa x 38)), (1, .int (nI j))]) hx hb dX3_move_91 hl (k := 1) rfl (nI_add (mwC (mw0 M j k px py) pn j t) 1) (by decide) rfl (fun ls hl => ?_)
              refine lv_iinc (v := nI (t + 1)) (lv' := [(6, .int (nI (t + 1))), (5, .int (nI ((mwC (mw0 M j k px py) pn j t) + 1))), (0, .ref (xa x 38)), (1, .int (nI j))]) hx hb dX3_move_94 hl (k := 1) rfl (nI_add (t) 1) (by decide) rfl (fun ls hl => ?_)
              refine lv_goto (tgt := 49) hx hb dX3_move_97 (by decide) ?_
              exact ih_49 (t + 1) (by omega) (by omega)  _ _ (show va_P (xD x) vwCl (wAll x (mwM (mw0 M j k px py) pn j (t + 1))) _ from by rw [show mwM (mw0 M j k px py) pn j (t + 1) = agM (mwM (mw0 M j k px py) pn j t) j t 0 from by simp [mwM, fallM, c_1, c_2, c_3, c_4]]; exact hP) hV ls (lv_sub hl [0, 1, 2, 3] (show ([(6, .int (nI (t + 1))), (5, .int (nI ((mwC (mw0 M j k px py) pn j t) + 1))), (0, .ref (xa x 38)), (1, .int (nI j))] : List (Nat × Value)) = [(6, .int (nI (t + 1))), (5, .int (nI (mwC (mw0 M j k px py) pn j (t + 1)))), (0, .ref (xa x 38)), (1, .int (nI j))] from by simp [mwC, fallM, c_1, c_2, c_3, c_4]))
    exact lp_49 (cn - (0) + 1) (0) (by omega) (by omega)  _ _ (show va_P (xD x) vwCl (wAll x (mwM (mw0 M j k px py) pn j 0)) _ from by exact hP) hV ls (lv_sub hl [0, 1, 2, 3] (show ([(6, .int 0), (5, .int 0), (0, .ref (xa x 38)), (1, .int (nI j))] : List (Nat × Value)) = [(6, .int 0), (5, .int (nI (mwC (mw0 M j k px py) pn j 0))), (0, .ref (xa x 38)), (1, .int (nI j))] from by rfl))
  · -- on
    have hc0 : ¬ cdMv M cn pn a q px py = 0 := of_decide_eq_false c_1
    refine lv_iconst (v := 0) hx hb dX3_move_16 (by decide) ?_
    exact g_iret hx hb hr hlk hS hZ hP hV (Nat.le_of_ble_eq_true rfl) (Nat.le_of_ble_eq_true rfl) dX3_move_17 (by exact (if_neg hc0).symm) (by exact (if_neg hc0).symm)
set_option maxHeartbeats 4000000 in
set_option maxRecDepth 100000 in
theorem c_X3_cables (l : Launch) (x : Cx) (M : Nat → Nat → Int32) (cn gn dn : Nat) (pn : Nat → Nat) (hM : OkM M cn gn dn pn) : Met l yX3_cables wsX3_cables ({ frames := 0, cells := 0, slots := 0, locals := 0 }) (gP x M [.ref (xa x 38)]) (gQ x (some (.int (nI cn))) (up2 M 38 0 0)) 0 0 (gF x) := by
  refine g_met (cc := cX3_cables) (maxL := 1) (ret := some .int) (by decide) rfl (Nat.le_of_ble_eq_true rfl) ?_
  intro p e s m below meth c hx hb hr hml hts hown hlk hS hZ hP hV ls hl
  have hl : lv_has ls 1 [(0, .ref (xa x 38))] := hl
  have hw_f62 := hts (.fieldLink RX3 62 "CableOfficeModel" "thrown" "I") (by decide +kernel)
  have hinX3 : ∀ w ∈ wsX30, w ∈ wsX3_cables := by decide +kernel
  have hw_f70 := hts (.fieldLink RX3 70 "CableOfficeModel" "cables" "I") (by decide +kernel)
  have hc8 := hM.c8
  have hg5 := hM.g5
  have hd8 := hM.d8
  refine lv_aload_n hx hb dX3_cables_0 rfl (lv_at hl 0 rfl) ?_
  refine lv_iconst (v := 0) hx hb dX3_cables_1 (by decide) ?_
  refine g_put (C := RX3) (T := TX3) (N := 22) hx hb hts hinX3 tyX3 tyX3_ok nmX3 hown hS hP hV (id := 38) (by decide) rfl rfl 0 (by decide) hw_f62 rfl (by decide +kernel) (Nat.le_of_ble_eq_true rfl) rfl dX3_cables_2 (fun H locs hP hV => ?_)
  have hM0 : OkM (up2 M 38 0 0) cn gn dn pn := hM.h0
  refine lv_aload_n hx hb dX3_cables_5 rfl (lv_at hl 0 rfl) ?_
  refine g_get (C := RX3) (T := TX3) (N := 22) (v := .int (nI cn)) hx hb hts hinX3 hown hS hP (id := 38) (by decide) rfl rfl 4 (by decide) hw_f70 (congrArg (fun z => some (Value.int z)) hM0.c) dX3_cables_6 ?_
  exact g_iret hx hb hr hlk hS hZ hP hV (Nat.le_of_ble_eq_true rfl) (Nat.le_of_ble_eq_true rfl) dX3_cables_9 (by rfl) (by rfl)
set_option maxHeartbeats 4000000 in
set_option maxRecDepth 100000 in
theorem c_X3_bare (l : Launch) (x : Cx) (M : Nat → Nat → Int32) (cn gn dn : Nat) (pn : Nat → Nat) (hM : OkM M cn gn dn pn) : Met l yX3_bare wsX3_bare ({ frames := 7, cells := 0, slots := 0, locals := 174 }) (gP x M [.ref (xa x 38)]) (gQ x (some (.int (nI (bnM M pn cn)))) (up2 M 38 0 0)) 0 0 (gF x) := by
  refine g_met (cc := cX3_bare) (maxL := 1) (ret := some .int) (by decide) rfl (Nat.le_of_ble_eq_true rfl) ?_
  intro p e s m below meth c hx hb hr hml hts hown hlk hS hZ hP hV ls hl
  have hl : lv_has ls 1 [(0, .ref (xa x 38))] := hl
  have hw_f62 := hts (.fieldLink RX3 62 "CableOfficeModel" "thrown" "I") (by decide +kernel)
  have hinX3 : ∀ w ∈ wsX30, w ∈ wsX3_bare := by decide +kernel
  have hc8 := hM.c8
  have hg5 := hM.g5
  have hd8 := hM.d8
  refine lv_aload_n hx hb dX3_bare_0 rfl (lv_at hl 0 rfl) ?_
  refine lv_iconst (v := 0) hx hb dX3_bare_1 (by decide) ?_
  refine g_put (C := RX3) (T := TX3) (N := 22) hx hb hts hinX3 tyX3 tyX3_ok nmX3 hown hS hP hV (id := 38) (by decide) rfl rfl 0 (by decide) hw_f62 rfl (by decide +kernel) (Nat.le_of_ble_eq_true rfl) rfl dX3_bare_2 (fun H locs hP hV => ?_)
  have hM0 : OkM (up2 M 38 0 0) cn gn dn pn := hM.h0
  refine lv_aload_n hx hb dX3_bare_5 rfl (lv_at hl 0 rfl) ?_
  refine g_call1 (va_runV (As := []) (rest := []) ⟨hx, hb, hml, hown, hts⟩ (c_X3_bareNow l x (up2 M 38 0 0) cn gn dn pn hM0) (cwV 0 hts gX3_bare_X3_bareNow rfl rfl rfl (by decide +kernel) ⟨Nat.le_of_ble_eq_true rfl, Nat.le_of_ble_eq_true rfl⟩) (g_preV hS hZ hP hV [] (id := 38) (by decide) rfl rfl) rfl rfl hl.1 rfl (lv_room (Nat.le_of_ble_eq_true rfl)) dX3_bare_6 ⟨Nat.le_of_ble_eq_true rfl, Nat.le_of_ble_eq_true rfl⟩) hV (fun H locs hP hV => ?_)
  exact g_iret hx hb hr hlk hS hZ hP hV (Nat.le_of_ble_eq_true rfl) (Nat.le_of_ble_eq_true rfl) dX3_bare_9 (by rfl) (by rfl)
set_option maxHeartbeats 4000000 in
set_option maxRecDepth 100000 in
theorem c_X3_point (l : Launch) (x : Cx) (M : Nat → Nat → Int32) (cn gn dn : Nat) (pn : Nat → Nat) (a q : Int32) (hM : OkM M cn gn dn pn) : Met l yX3_point wsX3_point ({ frames := 3, cells := 0, slots := 0, locals := 65 }) (gP x M [.ref (xa x 38), .int a, .int q]) (gQ x (some (.int (if cd01 (ptM cn pn a q) = 0 then (100 * M 42 (8 * tn a + tn q) + M 43 (8 * tn a + tn q)) else 0))) (if cd01 (ptM cn pn a q) = 0 then up2 M 38 0 0 else up2 M 38 0 (cd01 (ptM cn pn a q)))) 0 0 (gF x) := by
  refine g_met (cc := cX3_point) (maxL := 3) (ret := some .int) (by decide) rfl (Nat.le_of_ble_eq_true rfl) ?_
  intro p e s m below meth c hx hb hr hml hts hown hlk hS hZ hP hV ls hl
  have hl : lv_has ls 3 [(0, .ref (xa x 38)), (1, .int a), (2, .int q)] := hl
  have hw_f19 := hts (.fieldLink RX3 19 "CableOfficeModel" "xs" "[I") (by decide +kernel)
  have hinX3 : ∀ w ∈ wsX30, w ∈ wsX3_point := by decide +kernel
  have hw_f22 := hts (.fieldLink RX3 22 "CableOfficeModel" "ys" "[I") (by decide +kernel)
  have hc8 := hM.c8
  have hg5 := hM.g5
  have hd8 := hM.d8
  refine lv_aload_n hx hb dX3_point_0 rfl (lv_at hl 0 rfl) ?_
  refine lv_aload_n hx hb dX3_point_1 rfl (lv_at hl 0 rfl) ?_
  refine lv_iload_n hx hb dX3_point_2 rfl (lv_at hl 1 rfl) ?_
  refine lv_iload_n hx hb dX3_point_3 rfl (lv_at hl 2 rfl) ?_
  refine g_call1 (va_runV (As := [.int a, .int q]) (rest := [.ref (xa x 38)]) ⟨hx, hb, hml, hown, hts⟩ (c_X3_isPoint l x M cn gn dn pn a q hM) (cwV 2 hts gX3_point_X3_isPoint rfl rfl rfl (by decide +kernel) ⟨Nat.le_of_ble_eq_true rfl, Nat.le_of_ble_eq_true rfl⟩) (g_preV hS hZ hP hV [.int a, .int q] (id := 38) (by decide) rfl rfl) rfl rfl hl.1 rfl (lv_room (Nat.le_of_ble_eq_true rfl)) dX3_point_4 ⟨Nat.le_of_ble_eq_true rfl, Nat.le_of_ble_eq_true rfl⟩) hV (fun H locs hP hV => ?_)
  refine h_if_eq_b (tgt := 14) hx hb dX3_point_7 (by decide) (fun c_1 => ?_) (fun c_1 => ?_)
  · -- taken
    refine lv_iconst (v := 1) hx hb dX3_point_14 (by decide) ?_
    refine g_call1 (va_runV (As := [.int 1]) (rest := []) ⟨hx, hb, hml, hown, hts⟩ (c_X3_holds l x M 1) (cwV 1 hts gX3_point_X3_holds rfl rfl rfl (by decide +kernel) ⟨Nat.le_of_ble_eq_true rfl, Nat.le_of_ble_eq_true rfl⟩) (g_preV hS hZ hP hV [.int 1] (id := 38) (by decide) rfl rfl) rfl rfl hl.1 rfl (lv_room (Nat.le_of_ble_eq_true rfl)) dX3_point_15 ⟨Nat.le_of_ble_eq_true rfl, Nat.le_of_ble_eq_true rfl⟩) hV (fun H locs hP hV => ?_)
    have hM0 : OkM (up2 M 38 0 1) cn gn dn pn := hM.h0
    refine h_if_eq_b (tgt := 50) hx hb dX3_point_18 (by decide) (fun c_2 => ?_) (fun c_2 => ?_)
    · -- taken
      refine lv_iconst (v := 0) hx hb dX3_point_50 (by decide) ?_
      exact g_iret hx hb hr hlk hS hZ hP hV (Nat.le_of_ble_eq_true rfl) (Nat.le_of_ble_eq_true rfl) dX3_point_51 (by exact (if_neg (fun z => absurd ((show cd01 (ptM cn pn a q) = 1 from by simp [cd01, c_1, c_2]).symm.trans z) (by decide))).symm) (by have hcd := (show cd01 (ptM cn pn a q) = 1 from by simp [cd01, c_1, c_2]); rw [if_neg (fun z => absurd (hcd.symm.trans z) (by decide)), hcd])
    · -- on
      exact absurd c_2 (by decide)
  · -- on
    obtain ⟨j, k, hj, ea, hk, eb⟩ := ptM_true hM.c8 hM.pp c_1
    rw [ea, eb] at hl
    have h7j := hM.p7 hj
    refine lv_iconst (v := 0) hx hb dX3_point_10 (by decide) ?_
    refine lv_goto (tgt := 15) hx hb dX3_point_11 (by decide) ?_
    refine g_call1 (va_runV (As := [.int 0]) (rest := []) ⟨hx, hb, hml, hown, hts⟩ (c_X3_holds l x M 0) (cwV 1 hts gX3_point_X3_holds rfl rfl rfl (by decide +kernel) ⟨Nat.le_of_ble_eq_true rfl, Nat.le_of_ble_eq_true rfl⟩) (g_preV hS hZ hP hV [.int 0] (id := 38) (by decide) rfl rfl) rfl rfl hl.1 rfl (lv_room (Nat.le_of_ble_eq_true rfl)) dX3_point_15 ⟨Nat.le_of_ble_eq_true rfl, Nat.le_of_ble_eq_true rfl⟩) hV (fun H locs hP hV => ?_)
    have hM0 : OkM (up2 M 38 0 0) cn gn dn pn := hM.h0
    refine h_if_eq_b (tgt := 50) hx hb dX3_point_18 (by decide) (fun c_3 => ?_) (fun c_3 => ?_)
    · -- taken
      exact absurd c_3 (by decide)
    · -- on
      refine lv_bipush (v := 100) hx hb dX3_point_21 (by decide) ?_
      refine lv_aload_n hx hb dX3_point_23 rfl (lv_at hl 0 rfl) ?_
      refine g_get (C := RX3) (T := TX3) (N := 22) (v := .ref (xa x 42)) hx hb hts hinX3 hown hS hP (id := 38) (by decide) rfl rfl 6 (by decide) hw_f19 rfl dX3_point_24 ?_
      refine lv_bipush (v := 8) hx hb dX3_point_27 (by decide) ?_
      refine lv_iload_n hx hb dX3_point_29 rfl (lv_at hl 1 rfl) ?_
      refine h_imul (v := nI (8 * j)) hx hb dX3_point_30 (pk_mul (8) (j)) ?_
      refine lv_iload_n hx hb dX3_point_31 rfl (lv_at hl 2 rfl) ?_
      refine h_iadd (v := nI (8 * j + k)) hx hb dX3_point_32 (nI_add (8 * j) (k)) ?_
      refine g_iald (j := 8 * j + k) hx hb hS hP (id := 42) (by omega) ((fun _ => rfl) _) (by decide) rfl (by omega) dX3_point_33 ?_
      refine lv_imul hx hb dX3_point_34 ?_
      refine lv_aload_n hx hb dX3_point_35 rfl (lv_at hl 0 rfl) ?_
      refine g_get (C := RX3) (T := TX3) (N := 22) (v := .ref (xa x 43)) hx hb hts hinX3 hown hS hP (id := 38) (by decide) rfl rfl 7 (by decide) hw_f22 rfl dX3_point_36 ?_
      refine lv_bipush (v := 8) hx hb dX3_point_39 (by decide) ?_
      refine lv_iload_n hx hb dX3_point_41 rfl (lv_at hl 1 rfl) ?_
      refine h_imul (v := nI (8 * j)) hx hb dX3_point_42 (pk_mul (8) (j)) ?_
      refine lv_iload_n hx hb dX3_point_43 rfl (lv_at hl 2 rfl) ?_
      refine h_iadd (v := nI (8 * j + k)) hx hb dX3_point_44 (nI_add (8 * j) (k)) ?_
      refine g_iald (j := 8 * j + k) hx hb hS hP (id := 43) (by omega) ((fun _ => rfl) _) (by decide) rfl (by omega) dX3_point_45 ?_
      refine lv_iadd hx hb dX3_point_46 ?_
      refine lv_goto (tgt := 51) hx hb dX3_point_47 (by decide) ?_
      exact g_iret hx hb hr hlk hS hZ hP hV (Nat.le_of_ble_eq_true rfl) (Nat.le_of_ble_eq_true rfl) dX3_point_51 (by refine Eq.trans ?_ (if_pos (show cd01 (ptM cn pn a q) = 0 from by subst ea; subst eb; simp [cd01, c_1, c_3, tn_nI (show j < 2 ^ 31 by omega), tn_nI (show k < 2 ^ 31 by omega)])).symm; subst ea; subst eb; simp only [tn_nI (show j < 2 ^ 31 by omega), tn_nI (show k < 2 ^ 31 by omega)]; rfl) (by refine Eq.trans ?_ (if_pos (show cd01 (ptM cn pn a q) = 0 from by subst ea; subst eb; simp [cd01, c_1, c_3, tn_nI (show j < 2 ^ 31 by omega), tn_nI (show k < 2 ^ 31 by omega)])).symm; subst ea; subst eb; rfl)
set_option maxHeartbeats 4000000 in
set_option maxRecDepth 100000 in
theorem c_X3_crossings (l : Launch) (x : Cx) (M : Nat → Nat → Int32) (cn gn dn : Nat) (pn : Nat → Nat) (a b : Int32) (hM : OkM M cn gn dn pn) : Met l yX3_crossings wsX3_crossings ({ frames := 5, cells := 0, slots := 0, locals := 130 }) (gP x M [.ref (xa x 38), .int a, .int b]) (gQ x (some (.int (if cd01 (c2M cn a b) = 0 then nI (crM false M pn (tn a) (tn b)) else 0))) (if cd01 (c2M cn a b) = 0 then up2 M 38 0 0 else up2 M 38 0 (cd01 (c2M cn a b)))) 0 0 (gF x) := by
  refine g_met (cc := cX3_crossings) (maxL := 3) (ret := some .int) (by decide) rfl (Nat.le_of_ble_eq_true rfl) ?_
  intro p e s m below meth c hx hb hr hml hts hown hlk hS hZ hP hV ls hl
  have hl : lv_has ls 3 [(0, .ref (xa x 38)), (1, .int a), (2, .int b)] := hl
  have hc8 := hM.c8
  have hg5 := hM.g5
  have hd8 := hM.d8
  refine lv_aload_n hx hb dX3_crossings_0 rfl (lv_at hl 0 rfl) ?_
  refine lv_aload_n hx hb dX3_crossings_1 rfl (lv_at hl 0 rfl) ?_
  refine lv_iload_n hx hb dX3_crossings_2 rfl (lv_at hl 1 rfl) ?_
  refine lv_iload_n hx hb dX3_crossings_3 rfl (lv_at hl 2 rfl) ?_
  refine g_call1 (va_runV (As := [.int a, .int b]) (rest := [.ref (xa x 38)]) ⟨hx, hb, hml, hown, hts⟩ (c_X3_areCables l x M cn gn dn pn a b hM) (cwV 2 hts gX3_crossings_X3_areCables rfl rfl rfl (by decide +kernel) ⟨Nat.le_of_ble_eq_true rfl, Nat.le_of_ble_eq_true rfl⟩) (g_preV hS hZ hP hV [.int a, .int b] (id := 38) (by decide) rfl rfl) rfl rfl hl.1 rfl (lv_room (Nat.le_of_ble_eq_true rfl)) dX3_crossings_4 ⟨Nat.le_of_ble_eq_true rfl, Nat.le_of_ble_eq_true rfl⟩) hV (fun H locs hP hV => ?_)
  refine h_if_eq_b (tgt := 14) hx hb dX3_crossings_7 (by decide) (fun c_1 => ?_) (fun c_1 => ?_)
  · -- taken
    refine lv_iconst (v := 1) hx hb dX3_crossings_14 (by decide) ?_
    refine g_call1 (va_runV (As := [.int 1]) (rest := []) ⟨hx, hb, hml, hown, hts⟩ (c_X3_holds l x M 1) (cwV 1 hts gX3_crossings_X3_holds rfl rfl rfl (by decide +kernel) ⟨Nat.le_of_ble_eq_true rfl, Nat.le_of_ble_eq_true rfl⟩) (g_preV hS hZ hP hV [.int 1] (id := 38) (by decide) rfl rfl) rfl rfl hl.1 rfl (lv_room (Nat.le_of_ble_eq_true rfl)) dX3_crossings_15 ⟨Nat.le_of_ble_eq_true rfl, Nat.le_of_ble_eq_true rfl⟩) hV (fun H locs hP hV => ?_)
    have hM0 : OkM (up2 M 38 0 1) cn gn dn pn := hM.h0
    refine h_if_eq_b (tgt := 30) hx hb dX3_crossings_18 (by decide) (fun c_2 => ?_) (fun c_2 => ?_)
    · -- taken
      refine lv_iconst (v := 0) hx hb dX3_crossings_30 (by decide) ?_
      exact g_iret hx hb hr hlk hS hZ hP hV (Nat.le_of_ble_eq_true rfl) (Nat.le_of_ble_eq_true rfl) dX3_crossings_31 (by exact (if_neg (fun z => absurd ((show cd01 (c2M cn a b) = 1 from by simp [cd01, c_1, c_2]).symm.trans z) (by decide))).symm) (by have hcd := (show cd01 (c2M cn a b) = 1 from by simp [cd01, c_1, c_2]); rw [if_neg (fun z => absurd (hcd.symm.trans z) (by decide)), hcd])
    · -- on
      exact absurd c_2 (by decide)
  · -- on
    obtain ⟨j, k, hj, ea, hk, eb⟩ := c2M_true hM.c8 c_1
    rw [ea, eb] at hl
    have h7j := hM.p7 hj
    have h7k := hM.p7 hk
    refine lv_iconst (v := 0) hx hb dX3_crossings_10 (by decide) ?_
    refine lv_goto (tgt := 15) hx hb dX3_crossings_11 (by decide) ?_
    refine g_call1 (va_runV (As := [.int 0]) (rest := []) ⟨hx, hb, hml, hown, hts⟩ (c_X3_holds l x M 0) (cwV 1 hts gX3_crossings_X3_holds rfl rfl rfl (by decide +kernel) ⟨Nat.le_of_ble_eq_true rfl, Nat.le_of_ble_eq_true rfl⟩) (g_preV hS hZ hP hV [.int 0] (id := 38) (by decide) rfl rfl) rfl rfl hl.1 rfl (lv_room (Nat.le_of_ble_eq_true rfl)) dX3_crossings_15 ⟨Nat.le_of_ble_eq_true rfl, Nat.le_of_ble_eq_true rfl⟩) hV (fun H locs hP hV => ?_)
    have hM0 : OkM (up2 M 38 0 0) cn gn dn pn := hM.h0
    refine h_if_eq_b (tgt := 30) hx hb dX3_crossings_18 (by decide) (fun c_3 => ?_) (fun c_3 => ?_)
    · -- taken
      exact absurd c_3 (by decide)
    · -- on
      refine lv_aload_n hx hb dX3_crossings_21 rfl (lv_at hl 0 rfl) ?_
      refine lv_iload_n hx hb dX3_crossings_22 rfl (lv_at hl 1 rfl) ?_
      refine lv_iload_n hx hb dX3_crossings_23 rfl (lv_at hl 2 rfl) ?_
      refine g_call1 (va_runV (As := [.int (nI j), .int (nI k)]) (rest := []) ⟨hx, hb, hml, hown, hts⟩ (c_X3_crossed l x (up2 M 38 0 0) cn gn dn pn j k hM0 (by omega) (by omega)) (cwV 2 hts gX3_crossings_X3_crossed rfl rfl rfl (by decide +kernel) ⟨Nat.le_of_ble_eq_true rfl, Nat.le_of_ble_eq_true rfl⟩) (g_preV hS hZ hP hV [.int (nI j), .int (nI k)] (id := 38) (by decide) rfl rfl) rfl rfl hl.1 rfl (lv_room (Nat.le_of_ble_eq_true rfl)) dX3_crossings_24 ⟨Nat.le_of_ble_eq_true rfl, Nat.le_of_ble_eq_true rfl⟩) hV (fun H locs hP hV => ?_)
      refine lv_goto (tgt := 31) hx hb dX3_crossings_27 (by decide) ?_
      exact g_iret hx hb hr hlk hS hZ hP hV (Nat.le_of_ble_eq_true rfl) (Nat.le_of_ble_eq_true rfl) dX3_crossings_31 (by refine Eq.trans ?_ (if_pos (show cd01 (c2M cn a b) = 0 from by subst ea; subst eb; simp [cd01, c_1, c_3, tn_nI (show j < 2 ^ 31 by omega), tn_nI (show k < 2 ^ 31 by omega)])).symm; subst ea; subst eb; simp only [tn_nI (show j < 2 ^ 31 by omega), tn_nI (show k < 2 ^ 31 by omega)]; rfl) (by refine Eq.trans ?_ (if_pos (show cd01 (c2M cn a b) = 0 from by subst ea; subst eb; simp [cd01, c_1, c_3, tn_nI (show j < 2 ^ 31 by omega), tn_nI (show k < 2 ^ 31 by omega)])).symm; subst ea; subst eb; rfl)
set_option maxHeartbeats 4000000 in
set_option maxRecDepth 100000 in
theorem c_X3_crossingsAnew (l : Launch) (x : Cx) (M : Nat → Nat → Int32) (cn gn dn : Nat) (pn : Nat → Nat) (a b : Int32) (hM : OkM M cn gn dn pn) : Met l yX3_crossingsAnew wsX3_crossingsAnew ({ frames := 5, cells := 0, slots := 0, locals := 130 }) (gP x M [.ref (xa x 38), .int a, .int b]) (gQ x (some (.int (if cd01 (c2M cn a b) = 0 then nI (crM false M pn (tn a) (tn b)) else 0))) (if cd01 (c2M cn a b) = 0 then up2 M 38 0 0 else up2 M 38 0 (cd01 (c2M cn a b)))) 0 0 (gF x) := by
  refine g_met (cc := cX3_crossingsAnew) (maxL := 3) (ret := some .int) (by decide) rfl (Nat.le_of_ble_eq_true rfl) ?_
  intro p e s m below meth c hx hb hr hml hts hown hlk hS hZ hP hV ls hl
  have hl : lv_has ls 3 [(0, .ref (xa x 38)), (1, .int a), (2, .int b)] := hl
  have hc8 := hM.c8
  have hg5 := hM.g5
  have hd8 := hM.d8
  refine lv_aload_n hx hb dX3_crossingsAnew_0 rfl (lv_at hl 0 rfl) ?_
  refine lv_aload_n hx hb dX3_crossingsAnew_1 rfl (lv_at hl 0 rfl) ?_
  refine lv_iload_n hx hb dX3_crossingsAnew_2 rfl (lv_at hl 1 rfl) ?_
  refine lv_iload_n hx hb dX3_crossingsAnew_3 rfl (lv_at hl 2 rfl) ?_
  refine g_call1 (va_runV (As := [.int a, .int b]) (rest := [.ref (xa x 38)]) ⟨hx, hb, hml, hown, hts⟩ (c_X3_areCables l x M cn gn dn pn a b hM) (cwV 2 hts gX3_crossingsAnew_X3_areCables rfl rfl rfl (by decide +kernel) ⟨Nat.le_of_ble_eq_true rfl, Nat.le_of_ble_eq_true rfl⟩) (g_preV hS hZ hP hV [.int a, .int b] (id := 38) (by decide) rfl rfl) rfl rfl hl.1 rfl (lv_room (Nat.le_of_ble_eq_true rfl)) dX3_crossingsAnew_4 ⟨Nat.le_of_ble_eq_true rfl, Nat.le_of_ble_eq_true rfl⟩) hV (fun H locs hP hV => ?_)
  refine h_if_eq_b (tgt := 14) hx hb dX3_crossingsAnew_7 (by decide) (fun c_1 => ?_) (fun c_1 => ?_)
  · -- taken
    refine lv_iconst (v := 1) hx hb dX3_crossingsAnew_14 (by decide) ?_
    refine g_call1 (va_runV (As := [.int 1]) (rest := []) ⟨hx, hb, hml, hown, hts⟩ (c_X3_holds l x M 1) (cwV 1 hts gX3_crossingsAnew_X3_holds rfl rfl rfl (by decide +kernel) ⟨Nat.le_of_ble_eq_true rfl, Nat.le_of_ble_eq_true rfl⟩) (g_preV hS hZ hP hV [.int 1] (id := 38) (by decide) rfl rfl) rfl rfl hl.1 rfl (lv_room (Nat.le_of_ble_eq_true rfl)) dX3_crossingsAnew_15 ⟨Nat.le_of_ble_eq_true rfl, Nat.le_of_ble_eq_true rfl⟩) hV (fun H locs hP hV => ?_)
    have hM0 : OkM (up2 M 38 0 1) cn gn dn pn := hM.h0
    refine h_if_eq_b (tgt := 30) hx hb dX3_crossingsAnew_18 (by decide) (fun c_2 => ?_) (fun c_2 => ?_)
    · -- taken
      refine lv_iconst (v := 0) hx hb dX3_crossingsAnew_30 (by decide) ?_
      exact g_iret hx hb hr hlk hS hZ hP hV (Nat.le_of_ble_eq_true rfl) (Nat.le_of_ble_eq_true rfl) dX3_crossingsAnew_31 (by exact (if_neg (fun z => absurd ((show cd01 (c2M cn a b) = 1 from by simp [cd01, c_1, c_2]).symm.trans z) (by decide))).symm) (by have hcd := (show cd01 (c2M cn a b) = 1 from by simp [cd01, c_1, c_2]); rw [if_neg (fun z => absurd (hcd.symm.trans z) (by decide)), hcd])
    · -- on
      exact absurd c_2 (by decide)
  · -- on
    obtain ⟨j, k, hj, ea, hk, eb⟩ := c2M_true hM.c8 c_1
    rw [ea, eb] at hl
    have h7j := hM.p7 hj
    have h7k := hM.p7 hk
    refine lv_iconst (v := 0) hx hb dX3_crossingsAnew_10 (by decide) ?_
    refine lv_goto (tgt := 15) hx hb dX3_crossingsAnew_11 (by decide) ?_
    refine g_call1 (va_runV (As := [.int 0]) (rest := []) ⟨hx, hb, hml, hown, hts⟩ (c_X3_holds l x M 0) (cwV 1 hts gX3_crossingsAnew_X3_holds rfl rfl rfl (by decide +kernel) ⟨Nat.le_of_ble_eq_true rfl, Nat.le_of_ble_eq_true rfl⟩) (g_preV hS hZ hP hV [.int 0] (id := 38) (by decide) rfl rfl) rfl rfl hl.1 rfl (lv_room (Nat.le_of_ble_eq_true rfl)) dX3_crossingsAnew_15 ⟨Nat.le_of_ble_eq_true rfl, Nat.le_of_ble_eq_true rfl⟩) hV (fun H locs hP hV => ?_)
    have hM0 : OkM (up2 M 38 0 0) cn gn dn pn := hM.h0
    refine h_if_eq_b (tgt := 30) hx hb dX3_crossingsAnew_18 (by decide) (fun c_3 => ?_) (fun c_3 => ?_)
    · -- taken
      exact absurd c_3 (by decide)
    · -- on
      refine lv_aload_n hx hb dX3_crossingsAnew_21 rfl (lv_at hl 0 rfl) ?_
      refine lv_iload_n hx hb dX3_crossingsAnew_22 rfl (lv_at hl 1 rfl) ?_
      refine lv_iload_n hx hb dX3_crossingsAnew_23 rfl (lv_at hl 2 rfl) ?_
      refine g_call1 (va_runV (As := [.int (nI j), .int (nI k)]) (rest := []) ⟨hx, hb, hml, hown, hts⟩ (c_X3_crossed l x (up2 M 38 0 0) cn gn dn pn j k hM0 (by omega) (by omega)) (cwV 2 hts gX3_crossingsAnew_X3_crossed rfl rfl rfl (by decide +kernel) ⟨Nat.le_of_ble_eq_true rfl, Nat.le_of_ble_eq_true rfl⟩) (g_preV hS hZ hP hV [.int (nI j), .int (nI k)] (id := 38) (by decide) rfl rfl) rfl rfl hl.1 rfl (lv_room (Nat.le_of_ble_eq_true rfl)) dX3_crossingsAnew_24 ⟨Nat.le_of_ble_eq_true rfl, Nat.le_of_ble_eq_true rfl⟩) hV (fun H locs hP hV => ?_)
      refine lv_goto (tgt := 31) hx hb dX3_crossingsAnew_27 (by decide) ?_
      exact g_iret hx hb hr hlk hS hZ hP hV (Nat.le_of_ble_eq_true rfl) (Nat.le_of_ble_eq_true rfl) dX3_crossingsAnew_31 (by refine Eq.trans ?_ (if_pos (show cd01 (c2M cn a b) = 0 from by subst ea; subst eb; simp [cd01, c_1, c_3, tn_nI (show j < 2 ^ 31 by omega), tn_nI (show k < 2 ^ 31 by omega)])).symm; subst ea; subst eb; simp only [tn_nI (show j < 2 ^ 31 by omega), tn_nI (show k < 2 ^ 31 by omega)]; rfl) (by refine Eq.trans ?_ (if_pos (show cd01 (c2M cn a b) = 0 from by subst ea; subst eb; simp [cd01, c_1, c_3, tn_nI (show j < 2 ^ 31 by omega), tn_nI (show k < 2 ^ 31 by omega)])).symm; subst ea; subst eb; rfl)
set_option maxHeartbeats 4000000 in
set_option maxRecDepth 100000 in
theorem c_X3_isWell (l : Launch) (x : Cx) (M : Nat → Nat → Int32) (cn gn dn : Nat) (pn : Nat → Nat) (a b : Int32) (hM : OkM M cn gn dn pn) : Met l yX3_isWell wsX3_isWell ({ frames := 6, cells := 0, slots := 0, locals := 157 }) (gP x M [.ref (xa x 38), .int a, .int b]) (gQ x (some (.int (if cd01 (c2M cn a b) = 0 then bI (wnM M pn (tn a) (tn b)) else 0))) (if cd01 (c2M cn a b) = 0 then up2 M 38 0 0 else up2 M 38 0 (cd01 (c2M cn a b)))) 0 0 (gF x) := by
  refine g_met (cc := cX3_isWell) (maxL := 3) (ret := some .boolean) (by decide) rfl (Nat.le_of_ble_eq_true rfl) ?_
  intro p e s m below meth c hx hb hr hml hts hown hlk hS hZ hP hV ls hl
  have hl : lv_has ls 3 [(0, .ref (xa x 38)), (1, .int a), (2, .int b)] := hl
  have hc8 := hM.c8
  have hg5 := hM.g5
  have hd8 := hM.d8
  refine lv_aload_n hx hb dX3_isWell_0 rfl (lv_at hl 0 rfl) ?_
  refine lv_aload_n hx hb dX3_isWell_1 rfl (lv_at hl 0 rfl) ?_
  refine lv_iload_n hx hb dX3_isWell_2 rfl (lv_at hl 1 rfl) ?_
  refine lv_iload_n hx hb dX3_isWell_3 rfl (lv_at hl 2 rfl) ?_
  refine g_call1 (va_runV (As := [.int a, .int b]) (rest := [.ref (xa x 38)]) ⟨hx, hb, hml, hown, hts⟩ (c_X3_areCables l x M cn gn dn pn a b hM) (cwV 2 hts gX3_isWell_X3_areCables rfl rfl rfl (by decide +kernel) ⟨Nat.le_of_ble_eq_true rfl, Nat.le_of_ble_eq_true rfl⟩) (g_preV hS hZ hP hV [.int a, .int b] (id := 38) (by decide) rfl rfl) rfl rfl hl.1 rfl (lv_room (Nat.le_of_ble_eq_true rfl)) dX3_isWell_4 ⟨Nat.le_of_ble_eq_true rfl, Nat.le_of_ble_eq_true rfl⟩) hV (fun H locs hP hV => ?_)
  refine h_if_eq_b (tgt := 14) hx hb dX3_isWell_7 (by decide) (fun c_1 => ?_) (fun c_1 => ?_)
  · -- taken
    refine lv_iconst (v := 1) hx hb dX3_isWell_14 (by decide) ?_
    refine g_call1 (va_runV (As := [.int 1]) (rest := []) ⟨hx, hb, hml, hown, hts⟩ (c_X3_holds l x M 1) (cwV 1 hts gX3_isWell_X3_holds rfl rfl rfl (by decide +kernel) ⟨Nat.le_of_ble_eq_true rfl, Nat.le_of_ble_eq_true rfl⟩) (g_preV hS hZ hP hV [.int 1] (id := 38) (by decide) rfl rfl) rfl rfl hl.1 rfl (lv_room (Nat.le_of_ble_eq_true rfl)) dX3_isWell_15 ⟨Nat.le_of_ble_eq_true rfl, Nat.le_of_ble_eq_true rfl⟩) hV (fun H locs hP hV => ?_)
    have hM0 : OkM (up2 M 38 0 1) cn gn dn pn := hM.h0
    refine h_if_eq_b (tgt := 34) hx hb dX3_isWell_18 (by decide) (fun c_2 => ?_) (fun c_2 => ?_)
    · -- taken
      refine lv_iconst (v := 0) hx hb dX3_isWell_34 (by decide) ?_
      exact g_zret hx hb hr hlk hS hZ hP hV (Nat.le_of_ble_eq_true rfl) (Nat.le_of_ble_eq_true rfl) dX3_isWell_35 (by decide) (by exact (if_neg (fun z => absurd ((show cd01 (c2M cn a b) = 1 from by simp [cd01, c_1, c_2]).symm.trans z) (by decide))).symm) (by have hcd := (show cd01 (c2M cn a b) = 1 from by simp [cd01, c_1, c_2]); rw [if_neg (fun z => absurd (hcd.symm.trans z) (by decide)), hcd])
    · -- on
      exact absurd c_2 (by decide)
  · -- on
    obtain ⟨j, k, hj, ea, hk, eb⟩ := c2M_true hM.c8 c_1
    rw [ea, eb] at hl
    have h7j := hM.p7 hj
    have h7k := hM.p7 hk
    refine lv_iconst (v := 0) hx hb dX3_isWell_10 (by decide) ?_
    refine lv_goto (tgt := 15) hx hb dX3_isWell_11 (by decide) ?_
    refine g_call1 (va_runV (As := [.int 0]) (rest := []) ⟨hx, hb, hml, hown, hts⟩ (c_X3_holds l x M 0) (cwV 1 hts gX3_isWell_X3_holds rfl rfl rfl (by decide +kernel) ⟨Nat.le_of_ble_eq_true rfl, Nat.le_of_ble_eq_true rfl⟩) (g_preV hS hZ hP hV [.int 0] (id := 38) (by decide) rfl rfl) rfl rfl hl.1 rfl (lv_room (Nat.le_of_ble_eq_true rfl)) dX3_isWell_15 ⟨Nat.le_of_ble_eq_true rfl, Nat.le_of_ble_eq_true rfl⟩) hV (fun H locs hP hV => ?_)
    have hM0 : OkM (up2 M 38 0 0) cn gn dn pn := hM.h0
    refine h_if_eq_b (tgt := 34) hx hb dX3_isWell_18 (by decide) (fun c_3 => ?_) (fun c_3 => ?_)
    · -- taken
      exact absurd c_3 (by decide)
    · -- on
      refine lv_aload_n hx hb dX3_isWell_21 rfl (lv_at hl 0 rfl) ?_
      refine lv_iload_n hx hb dX3_isWell_22 rfl (lv_at hl 1 rfl) ?_
      refine lv_iload_n hx hb dX3_isWell_23 rfl (lv_at hl 2 rfl) ?_
      refine g_call1 (va_runV (As := [.int (nI j), .int (nI k)]) (rest := []) ⟨hx, hb, hml, hown, hts⟩ (c_X3_isWellNow l x (up2 M 38 0 0) cn gn dn pn j k hM0 (by omega) (by omega)) (cwV 2 hts gX3_isWell_X3_isWellNow rfl rfl rfl (by decide +kernel) ⟨Nat.le_of_ble_eq_true rfl, Nat.le_of_ble_eq_true rfl⟩) (g_preV hS hZ hP hV [.int (nI j), .int (nI k)] (id := 38) (by decide) rfl rfl) rfl rfl hl.1 rfl (lv_room (Nat.le_of_ble_eq_true rfl)) dX3_isWell_24 ⟨Nat.le_of_ble_eq_true rfl, Nat.le_of_ble_eq_true rfl⟩) hV (fun H locs hP hV => ?_)
      refine h_if_eq_b (tgt := 34) hx hb dX3_isWell_27 (by decide) (fun c_4 => ?_) (fun c_4 => ?_)
      · -- taken
        refine lv_iconst (v := 0) hx hb dX3_isWell_34 (by decide) ?_
        exact g_zret hx hb hr hlk hS hZ hP hV (Nat.le_of_ble_eq_true rfl) (Nat.le_of_ble_eq_true rfl) dX3_isWell_35 (by decide) (by refine Eq.trans ?_ (if_pos (show cd01 (c2M cn a b) = 0 from by subst ea; subst eb; simp [cd01, c_1, c_3, c_4, tn_nI (show j < 2 ^ 31 by omega), tn_nI (show k < 2 ^ 31 by omega)])).symm; subst ea; subst eb; simp only [tn_nI (show j < 2 ^ 31 by omega), tn_nI (show k < 2 ^ 31 by omega)]; exact congrArg bI c_4.symm) (by refine Eq.trans ?_ (if_pos (show cd01 (c2M cn a b) = 0 from by subst ea; subst eb; simp [cd01, c_1, c_3, c_4, tn_nI (show j < 2 ^ 31 by omega), tn_nI (show k < 2 ^ 31 by omega)])).symm; subst ea; subst eb; rfl)
      · -- on
        refine lv_iconst (v := 1) hx hb dX3_isWell_30 (by decide) ?_
        refine lv_goto (tgt := 35) hx hb dX3_isWell_31 (by decide) ?_
        exact g_zret hx hb hr hlk hS hZ hP hV (Nat.le_of_ble_eq_true rfl) (Nat.le_of_ble_eq_true rfl) dX3_isWell_35 (by decide) (by refine Eq.trans ?_ (if_pos (show cd01 (c2M cn a b) = 0 from by subst ea; subst eb; simp [cd01, c_1, c_3, c_4, tn_nI (show j < 2 ^ 31 by omega), tn_nI (show k < 2 ^ 31 by omega)])).symm; subst ea; subst eb; simp only [tn_nI (show j < 2 ^ 31 by omega), tn_nI (show k < 2 ^ 31 by omega)]; exact congrArg bI c_4.symm) (by refine Eq.trans ?_ (if_pos (show cd01 (c2M cn a b) = 0 from by subst ea; subst eb; simp [cd01, c_1, c_3, c_4, tn_nI (show j < 2 ^ 31 by omega), tn_nI (show k < 2 ^ 31 by omega)])).symm; subst ea; subst eb; rfl)
set_option maxHeartbeats 4000000 in
set_option maxRecDepth 100000 in
theorem c_X3_isAgreed (l : Launch) (x : Cx) (M : Nat → Nat → Int32) (cn gn dn : Nat) (pn : Nat → Nat) (a b : Int32) (hM : OkM M cn gn dn pn) : Met l yX3_isAgreed wsX3_isAgreed ({ frames := 3, cells := 0, slots := 0, locals := 65 }) (gP x M [.ref (xa x 38), .int a, .int b]) (gQ x (some (.int (if cd01 (c2M cn a b) = 0 then bI (!decide (M 44 (8 * tn a + tn b) = 0)) else 0))) (if cd01 (c2M cn a b) = 0 then up2 M 38 0 0 else up2 M 38 0 (cd01 (c2M cn a b)))) 0 0 (gF x) := by
  refine g_met (cc := cX3_isAgreed) (maxL := 3) (ret := some .boolean) (by decide) rfl (Nat.le_of_ble_eq_true rfl) ?_
  intro p e s m below meth c hx hb hr hml hts hown hlk hS hZ hP hV ls hl
  have hl : lv_has ls 3 [(0, .ref (xa x 38)), (1, .int a), (2, .int b)] := hl
  have hw_f25 := hts (.fieldLink RX3 25 "CableOfficeModel" "areAgreed" "[Z") (by decide +kernel)
  have hinX3 : ∀ w ∈ wsX30, w ∈ wsX3_isAgreed := by decide +kernel
  have hc8 := hM.c8
  have hg5 := hM.g5
  have hd8 := hM.d8
  refine lv_aload_n hx hb dX3_isAgreed_0 rfl (lv_at hl 0 rfl) ?_
  refine lv_aload_n hx hb dX3_isAgreed_1 rfl (lv_at hl 0 rfl) ?_
  refine lv_iload_n hx hb dX3_isAgreed_2 rfl (lv_at hl 1 rfl) ?_
  refine lv_iload_n hx hb dX3_isAgreed_3 rfl (lv_at hl 2 rfl) ?_
  refine g_call1 (va_runV (As := [.int a, .int b]) (rest := [.ref (xa x 38)]) ⟨hx, hb, hml, hown, hts⟩ (c_X3_areCables l x M cn gn dn pn a b hM) (cwV 2 hts gX3_isAgreed_X3_areCables rfl rfl rfl (by decide +kernel) ⟨Nat.le_of_ble_eq_true rfl, Nat.le_of_ble_eq_true rfl⟩) (g_preV hS hZ hP hV [.int a, .int b] (id := 38) (by decide) rfl rfl) rfl rfl hl.1 rfl (lv_room (Nat.le_of_ble_eq_true rfl)) dX3_isAgreed_4 ⟨Nat.le_of_ble_eq_true rfl, Nat.le_of_ble_eq_true rfl⟩) hV (fun H locs hP hV => ?_)
  refine h_if_eq_b (tgt := 14) hx hb dX3_isAgreed_7 (by decide) (fun c_1 => ?_) (fun c_1 => ?_)
  · -- taken
    refine lv_iconst (v := 1) hx hb dX3_isAgreed_14 (by decide) ?_
    refine g_call1 (va_runV (As := [.int 1]) (rest := []) ⟨hx, hb, hml, hown, hts⟩ (c_X3_holds l x M 1) (cwV 1 hts gX3_isAgreed_X3_holds rfl rfl rfl (by decide +kernel) ⟨Nat.le_of_ble_eq_true rfl, Nat.le_of_ble_eq_true rfl⟩) (g_preV hS hZ hP hV [.int 1] (id := 38) (by decide) rfl rfl) rfl rfl hl.1 rfl (lv_room (Nat.le_of_ble_eq_true rfl)) dX3_isAgreed_15 ⟨Nat.le_of_ble_eq_true rfl, Nat.le_of_ble_eq_true rfl⟩) hV (fun H locs hP hV => ?_)
    have hM0 : OkM (up2 M 38 0 1) cn gn dn pn := hM.h0
    refine h_if_eq_b (tgt := 39) hx hb dX3_isAgreed_18 (by decide) (fun c_2 => ?_) (fun c_2 => ?_)
    · -- taken
      refine lv_iconst (v := 0) hx hb dX3_isAgreed_39 (by decide) ?_
      exact g_zret hx hb hr hlk hS hZ hP hV (Nat.le_of_ble_eq_true rfl) (Nat.le_of_ble_eq_true rfl) dX3_isAgreed_40 (by decide) (by exact (if_neg (fun z => absurd ((show cd01 (c2M cn a b) = 1 from by simp [cd01, c_1, c_2]).symm.trans z) (by decide))).symm) (by have hcd := (show cd01 (c2M cn a b) = 1 from by simp [cd01, c_1, c_2]); rw [if_neg (fun z => absurd (hcd.symm.trans z) (by decide)), hcd])
    · -- on
      exact absurd c_2 (by decide)
  · -- on
    obtain ⟨j, k, hj, ea, hk, eb⟩ := c2M_true hM.c8 c_1
    rw [ea, eb] at hl
    have h7j := hM.p7 hj
    have h7k := hM.p7 hk
    refine lv_iconst (v := 0) hx hb dX3_isAgreed_10 (by decide) ?_
    refine lv_goto (tgt := 15) hx hb dX3_isAgreed_11 (by decide) ?_
    refine g_call1 (va_runV (As := [.int 0]) (rest := []) ⟨hx, hb, hml, hown, hts⟩ (c_X3_holds l x M 0) (cwV 1 hts gX3_isAgreed_X3_holds rfl rfl rfl (by decide +kernel) ⟨Nat.le_of_ble_eq_true rfl, Nat.le_of_ble_eq_true rfl⟩) (g_preV hS hZ hP hV [.int 0] (id := 38) (by decide) rfl rfl) rfl rfl hl.1 rfl (lv_room (Nat.le_of_ble_eq_true rfl)) dX3_isAgreed_15 ⟨Nat.le_of_ble_eq_true rfl, Nat.le_of_ble_eq_true rfl⟩) hV (fun H locs hP hV => ?_)
    have hM0 : OkM (up2 M 38 0 0) cn gn dn pn := hM.h0
    refine h_if_eq_b (tgt := 39) hx hb dX3_isAgreed_18 (by decide) (fun c_3 => ?_) (fun c_3 => ?_)
    · -- taken
      exact absurd c_3 (by decide)
    · -- on
      refine lv_aload_n hx hb dX3_isAgreed_21 rfl (lv_at hl 0 rfl) ?_
      refine g_get (C := RX3) (T := TX3) (N := 22) (v := .ref (xa x 44)) hx hb hts hinX3 hown hS hP (id := 38) (by decide) rfl rfl 8 (by decide) hw_f25 rfl dX3_isAgreed_22 ?_
      refine lv_bipush (v := 8) hx hb dX3_isAgreed_25 (by decide) ?_
      refine lv_iload_n hx hb dX3_isAgreed_27 rfl (lv_at hl 1 rfl) ?_
      refine h_imul (v := nI (8 * j)) hx hb dX3_isAgreed_28 (pk_mul (8) (j)) ?_
      refine lv_iload_n hx hb dX3_isAgreed_29 rfl (lv_at hl 2 rfl) ?_
      refine h_iadd (v := nI (8 * j + k)) hx hb dX3_isAgreed_30 (nI_add (8 * j) (k)) ?_
      refine g_zald (j := 8 * j + k) hx hb hS hP (id := 44) (by omega) ((fun _ => rfl) _) (by decide) rfl (by omega) dX3_isAgreed_31 ?_
      refine lv_if_eq (tgt := 39) hx hb dX3_isAgreed_32 (by decide) (fun c_4 => ?_) (fun c_4 => ?_)
      · -- taken
        refine lv_iconst (v := 0) hx hb dX3_isAgreed_39 (by decide) ?_
        exact g_zret hx hb hr hlk hS hZ hP hV (Nat.le_of_ble_eq_true rfl) (Nat.le_of_ble_eq_true rfl) dX3_isAgreed_40 (by decide) (by refine Eq.trans ?_ (if_pos (show cd01 (c2M cn a b) = 0 from by subst ea; subst eb; simp [cd01, c_1, c_3, c_4, tn_nI (show j < 2 ^ 31 by omega), tn_nI (show k < 2 ^ 31 by omega)])).symm; subst ea; subst eb; simp only [tn_nI (show j < 2 ^ 31 by omega), tn_nI (show k < 2 ^ 31 by omega)]; have hz : M 44 (8 * j + k) = 0 := c_4; simp [bI, hz]) (by refine Eq.trans ?_ (if_pos (show cd01 (c2M cn a b) = 0 from by subst ea; subst eb; simp [cd01, c_1, c_3, c_4, tn_nI (show j < 2 ^ 31 by omega), tn_nI (show k < 2 ^ 31 by omega)])).symm; subst ea; subst eb; rfl)
      · -- on
        refine lv_iconst (v := 1) hx hb dX3_isAgreed_35 (by decide) ?_
        refine lv_goto (tgt := 40) hx hb dX3_isAgreed_36 (by decide) ?_
        exact g_zret hx hb hr hlk hS hZ hP hV (Nat.le_of_ble_eq_true rfl) (Nat.le_of_ble_eq_true rfl) dX3_isAgreed_40 (by decide) (by refine Eq.trans ?_ (if_pos (show cd01 (c2M cn a b) = 0 from by subst ea; subst eb; simp [cd01, c_1, c_3, c_4, tn_nI (show j < 2 ^ 31 by omega), tn_nI (show k < 2 ^ 31 by omega)])).symm; subst ea; subst eb; simp only [tn_nI (show j < 2 ^ 31 by omega), tn_nI (show k < 2 ^ 31 by omega)]; have hz : ¬ M 44 (8 * j + k) = 0 := c_4; simp [bI, hz]) (by refine Eq.trans ?_ (if_pos (show cd01 (c2M cn a b) = 0 from by subst ea; subst eb; simp [cd01, c_1, c_3, c_4, tn_nI (show j < 2 ^ 31 by omega), tn_nI (show k < 2 ^ 31 by omega)])).symm; subst ea; subst eb; rfl)
set_option maxHeartbeats 4000000 in
set_option maxRecDepth 100000 in
theorem c_X3_agree (l : Launch) (x : Cx) (M : Nat → Nat → Int32) (cn gn dn : Nat) (pn : Nat → Nat) (a b : Int32) (hM : OkM M cn gn dn pn) : Met l yX3_agree wsX3_agree ({ frames := 7, cells := 0, slots := 0, locals := 174 }) (gP x M [.ref (xa x 38), .int a, .int b]) (gQ x (some (.int (if cdAg M cn pn a b = 0 then nI (bnM (agM (up2 M 38 0 0) (tn a) (tn b) 1) pn cn) else 0))) (if cdAg M cn pn a b = 0 then agM (up2 M 38 0 0) (tn a) (tn b) 1 else up2 M 38 0 (cdAg M cn pn a b))) 0 0 (gF x) := by
  refine g_met (cc := cX3_agree) (maxL := 5) (ret := some .int) (by decide) rfl (Nat.le_of_ble_eq_true rfl) ?_
  intro p e s m below meth c hx hb hr hml hts hown hlk hS hZ hP hV ls hl
  have hl : lv_has ls 5 [(0, .ref (xa x 38)), (1, .int a), (2, .int b)] := hl
  have hw_f25 := hts (.fieldLink RX3 25 "CableOfficeModel" "areAgreed" "[Z") (by decide +kernel)
  have hinX3 : ∀ w ∈ wsX30, w ∈ wsX3_agree := by decide +kernel
  have hc8 := hM.c8
  have hg5 := hM.g5
  have hd8 := hM.d8
  refine lv_aload_n hx hb dX3_agree_0 rfl (lv_at hl 0 rfl) ?_
  refine lv_iload_n hx hb dX3_agree_1 rfl (lv_at hl 1 rfl) ?_
  refine lv_iload_n hx hb dX3_agree_2 rfl (lv_at hl 2 rfl) ?_
  refine g_call1 (va_runV (As := [.int a, .int b]) (rest := []) ⟨hx, hb, hml, hown, hts⟩ (c_X3_areCables l x M cn gn dn pn a b hM) (cwV 2 hts gX3_agree_X3_areCables rfl rfl rfl (by decide +kernel) ⟨Nat.le_of_ble_eq_true rfl, Nat.le_of_ble_eq_true rfl⟩) (g_preV hS hZ hP hV [.int a, .int b] (id := 38) (by decide) rfl rfl) rfl rfl hl.1 rfl (lv_room (Nat.le_of_ble_eq_true rfl)) dX3_agree_3 ⟨Nat.le_of_ble_eq_true rfl, Nat.le_of_ble_eq_true rfl⟩) hV (fun H locs hP hV => ?_)
  refine lv_istore_n (lv' := [(3, .int (bI (c2M cn a b))), (0, .ref (xa x 38)), (1, .int a), (2, .int b)]) hx hb dX3_agree_6 rfl hl (by decide) rfl (fun ls hl => ?_)
  refine lv_iload_n hx hb dX3_agree_7 rfl (lv_at hl 0 rfl) ?_
  refine h_if_eq_b (tgt := 38) hx hb dX3_agree_8 (by decide) (fun c_1 => ?_) (fun c_1 => ?_)
  · -- taken
    refine lv_iconst (v := 0) hx hb dX3_agree_38 (by decide) ?_
    refine lv_istore (lv' := [(4, .int 0), (3, .int (bI (c2M cn a b))), (0, .ref (xa x 38)), (1, .int a), (2, .int b)]) hx hb dX3_agree_39 hl (by decide) rfl (fun ls hl => ?_)
    refine lv_aload_n hx hb dX3_agree_41 rfl (lv_at hl 2 rfl) ?_
    refine lv_iload_n hx hb dX3_agree_42 rfl (lv_at hl 1 rfl) ?_
    refine h_if_ne_b (tgt := 50) hx hb dX3_agree_43 (by decide) (fun c_2 => ?_) (fun c_2 => ?_)
    · -- taken
      exact absurd (c_1.symm.trans c_2) (by decide)
    · -- on
      refine lv_iconst (v := 1) hx hb dX3_agree_46 (by decide) ?_
      refine lv_goto (tgt := 60) hx hb dX3_agree_47 (by decide) ?_
      refine g_call1 (va_runV (As := [.int 1]) (rest := []) ⟨hx, hb, hml, hown, hts⟩ (c_X3_holds l x M 1) (cwV 1 hts gX3_agree_X3_holds rfl rfl rfl (by decide +kernel) ⟨Nat.le_of_ble_eq_true rfl, Nat.le_of_ble_eq_true rfl⟩) (g_preV hS hZ hP hV [.int 1] (id := 38) (by decide) rfl rfl) rfl rfl hl.1 rfl (lv_room (Nat.le_of_ble_eq_true rfl)) dX3_agree_60 ⟨Nat.le_of_ble_eq_true rfl, Nat.le_of_ble_eq_true rfl⟩) hV (fun H locs hP hV => ?_)
      have hM0 : OkM (up2 M 38 0 1) cn gn dn pn := hM.h0
      refine h_if_ne_b (tgt := 68) hx hb dX3_agree_63 (by decide) (fun c_3 => ?_) (fun c_3 => ?_)
      · -- taken
        exact absurd c_3 (by decide)
      · -- on
        refine lv_iconst (v := 0) hx hb dX3_agree_66 (by decide) ?_
        exact g_iret hx hb hr hlk hS hZ hP hV (Nat.le_of_ble_eq_true rfl) (Nat.le_of_ble_eq_true rfl) dX3_agree_67 (by exact (if_neg (fun z => absurd ((show cdAg M cn pn a b = 1 from by simp [cdAg, c_1, c_2, c_3]).symm.trans z) (by decide))).symm) (by have hcd := (show cdAg M cn pn a b = 1 from by simp [cdAg, c_1, c_2, c_3]); rw [if_neg (fun z => absurd (hcd.symm.trans z) (by decide)), hcd])
  · -- on
    rw [c_1] at hl
    obtain ⟨j, k, hj, ea, hk, eb⟩ := c2M_true hM.c8 c_1
    rw [ea, eb] at hl
    have h7j := hM.p7 hj
    have h7k := hM.p7 hk
    refine lv_aload_n hx hb dX3_agree_11 rfl (lv_at hl 1 rfl) ?_
    refine g_get (C := RX3) (T := TX3) (N := 22) (v := .ref (xa x 44)) hx hb hts hinX3 hown hS hP (id := 38) (by decide) rfl rfl 8 (by decide) hw_f25 rfl dX3_agree_12 ?_
    refine lv_bipush (v := 8) hx hb dX3_agree_15 (by decide) ?_
    refine lv_iload_n hx hb dX3_agree_17 rfl (lv_at hl 2 rfl) ?_
    refine h_imul (v := nI (8 * j)) hx hb dX3_agree_18 (pk_mul (8) (j)) ?_
    refine lv_iload_n hx hb dX3_agree_19 rfl (lv_at hl 3 rfl) ?_
    refine h_iadd (v := nI (8 * j + k)) hx hb dX3_agree_20 (nI_add (8 * j) (k)) ?_
    refine g_zald (j := 8 * j + k) hx hb hS hP (id := 44) (by omega) ((fun _ => rfl) _) (by decide) rfl (by omega) dX3_agree_21 ?_
    refine lv_if_ne (tgt := 38) hx hb dX3_agree_22 (by decide) (fun c_4 => ?_) (fun c_4 => ?_)
    · -- taken
      refine lv_iconst (v := 0) hx hb dX3_agree_38 (by decide) ?_
      refine lv_istore (lv' := [(4, .int 0), (3, .int (bI true)), (0, .ref (xa x 38)), (1, .int (nI j)), (2, .int (nI k))]) hx hb dX3_agree_39 hl (by decide) rfl (fun ls hl => ?_)
      refine lv_aload_n hx hb dX3_agree_41 rfl (lv_at hl 2 rfl) ?_
      refine lv_iload_n hx hb dX3_agree_42 rfl (lv_at hl 1 rfl) ?_
      refine h_if_ne_b (tgt := 50) hx hb dX3_agree_43 (by decide) (fun c_5 => ?_) (fun c_5 => ?_)
      · -- taken
        refine lv_iload hx hb dX3_agree_50 (lv_at hl 0 rfl) ?_
        refine lv_if_eq (tgt := 59) hx hb dX3_agree_52 (by decide) (fun c_6 => ?_) (fun c_6 => ?_)
        · -- taken
          refine lv_iconst (v := 2) hx hb dX3_agree_59 (by decide) ?_
          refine g_call1 (va_runV (As := [.int 2]) (rest := []) ⟨hx, hb, hml, hown, hts⟩ (c_X3_holds l x M 2) (cwV 1 hts gX3_agree_X3_holds rfl rfl rfl (by decide +kernel) ⟨Nat.le_of_ble_eq_true rfl, Nat.le_of_ble_eq_true rfl⟩) (g_preV hS hZ hP hV [.int 2] (id := 38) (by decide) rfl rfl) rfl rfl hl.1 rfl (lv_room (Nat.le_of_ble_eq_true rfl)) dX3_agree_60 ⟨Nat.le_of_ble_eq_true rfl, Nat.le_of_ble_eq_true rfl⟩) hV (fun H locs hP hV => ?_)
          have hM0 : OkM (up2 M 38 0 2) cn gn dn pn := hM.h0
          refine h_if_ne_b (tgt := 68) hx hb dX3_agree_63 (by decide) (fun c_7 => ?_) (fun c_7 => ?_)
          · -- taken
            exact absurd c_7 (by decide)
          · -- on
            refine lv_iconst (v := 0) hx hb dX3_agree_66 (by decide) ?_
            exact g_iret hx hb hr hlk hS hZ hP hV (Nat.le_of_ble_eq_true rfl) (Nat.le_of_ble_eq_true rfl) dX3_agree_67 (by exact (if_neg (fun z => absurd ((show cdAg M cn pn a b = 2 from by subst ea; subst eb; simp [cdAg, c_1, c_4, c_5, c_6, c_7, tn_nI (show j < 2 ^ 31 by omega), tn_nI (show k < 2 ^ 31 by omega)]).symm.trans z) (by decide))).symm) (by have hcd := (show cdAg M cn pn a b = 2 from by subst ea; subst eb; simp [cdAg, c_1, c_4, c_5, c_6, c_7, tn_nI (show j < 2 ^ 31 by omega), tn_nI (show k < 2 ^ 31 by omega)]); rw [if_neg (fun z => absurd (hcd.symm.trans z) (by decide)), hcd])
        · -- on
          exact absurd c_6 (by decide)
      · -- on
        exact absurd ((rfl : true = true).symm.trans c_5) (by decide)
    · -- on
      refine lv_aload_n hx hb dX3_agree_25 rfl (lv_at hl 1 rfl) ?_
      refine lv_iload_n hx hb dX3_agree_26 rfl (lv_at hl 2 rfl) ?_
      refine lv_iload_n hx hb dX3_agree_27 rfl (lv_at hl 3 rfl) ?_
      refine g_call1 (va_runV (As := [.int (nI j), .int (nI k)]) (rest := []) ⟨hx, hb, hml, hown, hts⟩ (c_X3_isWellNow l x M cn gn dn pn j k hM (by omega) (by omega)) (cwV 2 hts gX3_agree_X3_isWellNow rfl rfl rfl (by decide +kernel) ⟨Nat.le_of_ble_eq_true rfl, Nat.le_of_ble_eq_true rfl⟩) (g_preV hS hZ hP hV [.int (nI j), .int (nI k)] (id := 38) (by decide) rfl rfl) rfl rfl hl.1 rfl (lv_room (Nat.le_of_ble_eq_true rfl)) dX3_agree_28 ⟨Nat.le_of_ble_eq_true rfl, Nat.le_of_ble_eq_true rfl⟩) hV (fun H locs hP hV => ?_)
      refine h_if_eq_b (tgt := 38) hx hb dX3_agree_31 (by decide) (fun c_8 => ?_) (fun c_8 => ?_)
      · -- taken
        refine lv_iconst (v := 0) hx hb dX3_agree_38 (by decide) ?_
        refine lv_istore (lv' := [(4, .int 0), (3, .int (bI true)), (0, .ref (xa x 38)), (1, .int (nI j)), (2, .int (nI k))]) hx hb dX3_agree_39 hl (by decide) rfl (fun ls hl => ?_)
        refine lv_aload_n hx hb dX3_agree_41 rfl (lv_at hl 2 rfl) ?_
        refine lv_iload_n hx hb dX3_agree_42 rfl (lv_at hl 1 rfl) ?_
        refine h_if_ne_b (tgt := 50) hx hb dX3_agree_43 (by decide) (fun c_9 => ?_) (fun c_9 => ?_)
        · -- taken
          refine lv_iload hx hb dX3_agree_50 (lv_at hl 0 rfl) ?_
          refine lv_if_eq (tgt := 59) hx hb dX3_agree_52 (by decide) (fun c_10 => ?_) (fun c_10 => ?_)
          · -- taken
            refine lv_iconst (v := 2) hx hb dX3_agree_59 (by decide) ?_
            refine g_call1 (va_runV (As := [.int 2]) (rest := []) ⟨hx, hb, hml, hown, hts⟩ (c_X3_holds l x M 2) (cwV 1 hts gX3_agree_X3_holds rfl rfl rfl (by decide +kernel) ⟨Nat.le_of_ble_eq_true rfl, Nat.le_of_ble_eq_true rfl⟩) (g_preV hS hZ hP hV [.int 2] (id := 38) (by decide) rfl rfl) rfl rfl hl.1 rfl (lv_room (Nat.le_of_ble_eq_true rfl)) dX3_agree_60 ⟨Nat.le_of_ble_eq_true rfl, Nat.le_of_ble_eq_true rfl⟩) hV (fun H locs hP hV => ?_)
            have hM0 : OkM (up2 M 38 0 2) cn gn dn pn := hM.h0
            refine h_if_ne_b (tgt := 68) hx hb dX3_agree_63 (by decide) (fun c_11 => ?_) (fun c_11 => ?_)
            · -- taken
              exact absurd c_11 (by decide)
            · -- on
              refine lv_iconst (v := 0) hx hb dX3_agree_66 (by decide) ?_
              exact g_iret hx hb hr hlk hS hZ hP hV (Nat.le_of_ble_eq_true rfl) (Nat.le_of_ble_eq_true rfl) dX3_agree_67 (by exact (if_neg (fun z => absurd ((show cdAg M cn pn a b = 2 from by subst ea; subst eb; simp [cdAg, c_1, c_4, c_8, c_9, c_10, c_11, tn_nI (show j < 2 ^ 31 by omega), tn_nI (show k < 2 ^ 31 by omega)]).symm.trans z) (by decide))).symm) (by have hcd := (show cdAg M cn pn a b = 2 from by subst ea; subst eb; simp [cdAg, c_1, c_4, c_8, c_9, c_10, c_11, tn_nI (show j < 2 ^ 31 by omega), tn_nI (show k < 2 ^ 31 by omega)]); rw [if_neg (fun z => absurd (hcd.symm.trans z) (by decide)), hcd])
          · -- on
            exact absurd c_10 (by decide)
        · -- on
          exact absurd ((rfl : true = true).symm.trans c_9) (by decide)
      · -- on
        refine lv_iconst (v := 1) hx hb dX3_agree_34 (by decide) ?_
        refine lv_goto (tgt := 39) hx hb dX3_agree_35 (by decide) ?_
        refine lv_istore (lv' := [(4, .int 1), (3, .int (bI true)), (0, .ref (xa x 38)), (1, .int (nI j)), (2, .int (nI k))]) hx hb dX3_agree_39 hl (by decide) rfl (fun ls hl => ?_)
        refine lv_aload_n hx hb dX3_agree_41 rfl (lv_at hl 2 rfl) ?_
        refine lv_iload_n hx hb dX3_agree_42 rfl (lv_at hl 1 rfl) ?_
        refine h_if_ne_b (tgt := 50) hx hb dX3_agree_43 (by decide) (fun c_12 => ?_) (fun c_12 => ?_)
        · -- taken
          refine lv_iload hx hb dX3_agree_50 (lv_at hl 0 rfl) ?_
          refine lv_if_eq (tgt := 59) hx hb dX3_agree_52 (by decide) (fun c_13 => ?_) (fun c_13 => ?_)
          · -- taken
            exact absurd c_13 (by decide)
          · -- on
            refine lv_iconst (v := 0) hx hb dX3_agree_55 (by decide) ?_
            refine lv_goto (tgt := 60) hx hb dX3_agree_56 (by decide) ?_
            refine g_call1 (va_runV (As := [.int 0]) (rest := []) ⟨hx, hb, hml, hown, hts⟩ (c_X3_holds l x M 0) (cwV 1 hts gX3_agree_X3_holds rfl rfl rfl (by decide +kernel) ⟨Nat.le_of_ble_eq_true rfl, Nat.le_of_ble_eq_true rfl⟩) (g_preV hS hZ hP hV [.int 0] (id := 38) (by decide) rfl rfl) rfl rfl hl.1 rfl (lv_room (Nat.le_of_ble_eq_true rfl)) dX3_agree_60 ⟨Nat.le_of_ble_eq_true rfl, Nat.le_of_ble_eq_true rfl⟩) hV (fun H locs hP hV => ?_)
            have hM0 : OkM (up2 M 38 0 0) cn gn dn pn := hM.h0
            refine h_if_ne_b (tgt := 68) hx hb dX3_agree_63 (by decide) (fun c_14 => ?_) (fun c_14 => ?_)
            · -- taken
              refine lv_aload_n hx hb dX3_agree_68 rfl (lv_at hl 2 rfl) ?_
              refine lv_iload_n hx hb dX3_agree_69 rfl (lv_at hl 3 rfl) ?_
              refine lv_iload_n hx hb dX3_agree_70 rfl (lv_at hl 4 rfl) ?_
              refine lv_iconst (v := 1) hx hb dX3_agree_71 (by decide) ?_
              refine g_call0 (va_runV (As := [.int (nI j), .int (nI k), .int 1]) (rest := []) ⟨hx, hb, hml, hown, hts⟩ (c_X3_agrees l x (up2 M 38 0 0) j k true (by omega) (by omega)) (cwV 3 hts gX3_agree_X3_agrees rfl rfl rfl (by decide +kernel) ⟨Nat.le_of_ble_eq_true rfl, Nat.le_of_ble_eq_true rfl⟩) (g_preV hS hZ hP hV [.int (nI j), .int (nI k), .int 1] (id := 38) (by decide) rfl rfl) rfl rfl hl.1 rfl (lv_room (Nat.le_of_ble_eq_true rfl)) dX3_agree_72 ⟨Nat.le_of_ble_eq_true rfl, Nat.le_of_ble_eq_true rfl⟩) hV (fun H locs hP hV => ?_)
              have hM2 : OkM (agM (up2 M 38 0 0) j k 1) cn gn dn pn := agM_ok hM0
              refine lv_aload_n hx hb dX3_agree_75 rfl (lv_at hl 2 rfl) ?_
              refine g_call1 (va_runV (As := []) (rest := []) ⟨hx, hb, hml, hown, hts⟩ (c_X3_bareNow l x (agM (up2 M 38 0 0) j k 1) cn gn dn pn hM2) (cwV 0 hts gX3_agree_X3_bareNow rfl rfl rfl (by decide +kernel) ⟨Nat.le_of_ble_eq_true rfl, Nat.le_of_ble_eq_true rfl⟩) (g_preV hS hZ hP hV [] (id := 38) (by decide) rfl rfl) rfl rfl hl.1 rfl (lv_room (Nat.le_of_ble_eq_true rfl)) dX3_agree_76 ⟨Nat.le_of_ble_eq_true rfl, Nat.le_of_ble_eq_true rfl⟩) hV (fun H locs hP hV => ?_)
              exact g_iret hx hb hr hlk hS hZ hP hV (Nat.le_of_ble_eq_true rfl) (Nat.le_of_ble_eq_true rfl) dX3_agree_79 (by refine Eq.trans ?_ (if_pos (show cdAg M cn pn a b = 0 from by subst ea; subst eb; simp [cdAg, c_1, c_4, c_8, c_12, c_13, c_14, tn_nI (show j < 2 ^ 31 by omega), tn_nI (show k < 2 ^ 31 by omega)])).symm; subst ea; subst eb; simp only [tn_nI (show j < 2 ^ 31 by omega), tn_nI (show k < 2 ^ 31 by omega)]) (by refine Eq.trans ?_ (if_pos (show cdAg M cn pn a b = 0 from by subst ea; subst eb; simp [cdAg, c_1, c_4, c_8, c_12, c_13, c_14, tn_nI (show j < 2 ^ 31 by omega), tn_nI (show k < 2 ^ 31 by omega)])).symm; subst ea; subst eb; simp only [tn_nI (show j < 2 ^ 31 by omega), tn_nI (show k < 2 ^ 31 by omega)])
            · -- on
              exact absurd c_14 (by decide)
        · -- on
          exact absurd ((rfl : true = true).symm.trans c_12) (by decide)
set_option maxHeartbeats 4000000 in
set_option maxRecDepth 100000 in
theorem c_X3_ground (l : Launch) (x : Cx) (M : Nat → Nat → Int32) (cn gn dn : Nat) (pn : Nat → Nat) (le lo ri hh fr to : Int32) (hM : OkM M cn gn dn pn) : Met l yX3_ground wsX3_ground ({ frames := 2, cells := 0, slots := 0, locals := 43 }) (gP x M [.ref (xa x 38), .int le, .int lo, .int ri, .int hh, .int fr, .int to]) (gQ x (some (.int (if cdGr gn le lo ri hh fr to = 0 then nI gn else 0))) (if cdGr gn le lo ri hh fr to = 0 then gwM M gn le lo ri hh fr to else up2 M 38 0 (cdGr gn le lo ri hh fr to))) 0 0 (gF x) := by
  refine g_met (cc := cX3_ground) (maxL := 8) (ret := some .int) (by decide) rfl (Nat.le_of_ble_eq_true rfl) ?_
  intro p e s m below meth c hx hb hr hml hts hown hlk hS hZ hP hV ls hl
  have hl : lv_has ls 8 [(0, .ref (xa x 38)), (1, .int le), (2, .int lo), (3, .int ri), (4, .int hh), (5, .int fr), (6, .int to)] := hl
  have hw_f133 := hts (.fieldLink RX3 133 "CableOfficeModel" "grounds" "I") (by decide +kernel)
  have hinX3 : ∀ w ∈ wsX30, w ∈ wsX3_ground := by decide +kernel
  have hw_f29 := hts (.fieldLink RX3 29 "CableOfficeModel" "lefts" "[I") (by decide +kernel)
  have hw_f32 := hts (.fieldLink RX3 32 "CableOfficeModel" "lows" "[I") (by decide +kernel)
  have hw_f35 := hts (.fieldLink RX3 35 "CableOfficeModel" "rights" "[I") (by decide +kernel)
  have hw_f38 := hts (.fieldLink RX3 38 "CableOfficeModel" "highs" "[I") (by decide +kernel)
  have hw_f41 := hts (.fieldLink RX3 41 "CableOfficeModel" "froms" "[I") (by decide +kernel)
  have hw_f44 := hts (.fieldLink RX3 44 "CableOfficeModel" "tos" "[I") (by decide +kernel)
  have hc8 := hM.c8
  have hg5 := hM.g5
  have hd8 := hM.d8
  have J_34 : ∀ v : Int32, v = bI (arM le lo ri hh) → ∀ (H : Heap) (locs : List Loc), va_P (xD x) vwCl (wAll x M) H → va_S (gF x) s.heap H locs → ∀ ls : Array Slot, lv_has ls 8 [(0, .ref (xa x 38)), (1, .int le), (2, .int lo), (3, .int ri), (4, .int hh), (5, .int fr), (6, .int to)] → W p l e ({ frames := 2, cells := 0, slots := 0, locals := 43 }) s m ([.ref (xa x 38), .int le, .int lo, .int ri, .int hh, .int fr, .int to] : List Value).toArray below meth c H locs 0 0 (MQ below (gQ x (some (.int (if cdGr gn le lo ri hh fr to = 0 then nI gn else 0))) (if cdGr gn le lo ri hh fr to = 0 then gwM M gn le lo ri hh fr to else up2 M 38 0 (cdGr gn le lo ri hh fr to))) ([.ref (xa x 38), .int le, .int lo, .int ri, .int hh, .int fr, .int to] : List Value).toArray s 0 0 (gF x)) (F0 m 34 ls (.int v :: [])) := by
    intro v hv H locs hP hV ls hl
    subst hv
    refine lv_istore (lv' := [(7, .int (bI (arM le lo ri hh))), (0, .ref (xa x 38)), (1, .int le), (2, .int lo), (3, .int ri), (4, .int hh), (5, .int fr), (6, .int to)]) hx hb dX3_ground_34 hl (by decide) rfl (fun ls hl => ?_)
    refine lv_aload_n hx hb dX3_ground_36 rfl (lv_at hl 1 rfl) ?_
    refine lv_iload hx hb dX3_ground_37 (lv_at hl 0 rfl) ?_
    refine h_if_eq_b (tgt := 58) hx hb dX3_ground_39 (by decide) (fun c_1 => ?_) (fun c_1 => ?_)
    · -- taken
      refine lv_iconst (v := 1) hx hb dX3_ground_58 (by decide) ?_
      refine lv_goto (tgt := 75) hx hb dX3_ground_59 (by decide) ?_
      refine g_call1 (va_runV (As := [.int 1]) (rest := []) ⟨hx, hb, hml, hown, hts⟩ (c_X3_holds l x M 1) (cwV 1 hts gX3_ground_X3_holds rfl rfl rfl (by decide +kernel) ⟨Nat.le_of_ble_eq_true rfl, Nat.le_of_ble_eq_true rfl⟩) (g_preV hS hZ hP hV [.int 1] (id := 38) (by decide) rfl rfl) rfl rfl hl.1 rfl (lv_room (Nat.le_of_ble_eq_true rfl)) dX3_ground_75 ⟨Nat.le_of_ble_eq_true rfl, Nat.le_of_ble_eq_true rfl⟩) hV (fun H locs hP hV => ?_)
      have hM0 : OkM (up2 M 38 0 1) cn gn dn pn := hM.h0
      refine h_if_ne_b (tgt := 83) hx hb dX3_ground_78 (by decide) (fun c_2 => ?_) (fun c_2 => ?_)
      · -- taken
        exact absurd c_2 (by decide)
      · -- on
        refine lv_iconst (v := 0) hx hb dX3_ground_81 (by decide) ?_
        exact g_iret hx hb hr hlk hS hZ hP hV (Nat.le_of_ble_eq_true rfl) (Nat.le_of_ble_eq_true rfl) dX3_ground_82 (by exact (if_neg (fun z => absurd ((show cdGr gn le lo ri hh fr to = 1 from by simp [cdGr, c_1, c_2]).symm.trans z) (by decide))).symm) (by have hcd := (show cdGr gn le lo ri hh fr to = 1 from by simp [cdGr, c_1, c_2]); rw [if_neg (fun z => absurd (hcd.symm.trans z) (by decide)), hcd])
    · -- on
      refine lv_iload hx hb dX3_ground_42 (lv_at hl 6 rfl) ?_
      refine g_call1 (va_runS (As := [.int fr]) (rest := [.ref (xa x 38)]) ⟨hx, hb, hml, hown, hts⟩ (c_X3_isMonth l x M fr) (va_cwS 1 hts gX3_ground_X3_isMonth rfl rfl rfl (by decide +kernel) ⟨Nat.le_of_ble_eq_true rfl, Nat.le_of_ble_eq_true rfl⟩) (g_preS hS hZ hP hV [.int fr]) rfl rfl hl.1 rfl (lv_room (Nat.le_of_ble_eq_true rfl)) dX3_ground_44 ⟨Nat.le_of_ble_eq_true rfl, Nat.le_of_ble_eq_true rfl⟩) hV (fun H locs hP hV => ?_)
      refine h_if_eq_b (tgt := 58) hx hb dX3_ground_47 (by decide) (fun c_3 => ?_) (fun c_3 => ?_)
      · -- taken
        refine lv_iconst (v := 1) hx hb dX3_ground_58 (by decide) ?_
        refine lv_goto (tgt := 75) hx hb dX3_ground_59 (by decide) ?_
        refine g_call1 (va_runV (As := [.int 1]) (rest := []) ⟨hx, hb, hml, hown, hts⟩ (c_X3_holds l x M 1) (cwV 1 hts gX3_ground_X3_holds rfl rfl rfl (by decide +kernel) ⟨Nat.le_of_ble_eq_true rfl, Nat.le_of_ble_eq_true rfl⟩) (g_preV hS hZ hP hV [.int 1] (id := 38) (by decide) rfl rfl) rfl rfl hl.1 rfl (lv_room (Nat.le_of_ble_eq_true rfl)) dX3_ground_75 ⟨Nat.le_of_ble_eq_true rfl, Nat.le_of_ble_eq_true rfl⟩) hV (fun H locs hP hV => ?_)
        have hM0 : OkM (up2 M 38 0 1) cn gn dn pn := hM.h0
        refine h_if_ne_b (tgt := 83) hx hb dX3_ground_78 (by decide) (fun c_4 => ?_) (fun c_4 => ?_)
        · -- taken
          exact absurd c_4 (by decide)
        · -- on
          refine lv_iconst (v := 0) hx hb dX3_ground_81 (by decide) ?_
          exact g_iret hx hb hr hlk hS hZ hP hV (Nat.le_of_ble_eq_true rfl) (Nat.le_of_ble_eq_true rfl) dX3_ground_82 (by exact (if_neg (fun z => absurd ((show cdGr gn le lo ri hh fr to = 1 from by simp [cdGr, c_1, c_3, c_4]).symm.trans z) (by decide))).symm) (by have hcd := (show cdGr gn le lo ri hh fr to = 1 from by simp [cdGr, c_1, c_3, c_4]); rw [if_neg (fun z => absurd (hcd.symm.trans z) (by decide)), hcd])
      · -- on
        refine lv_iload hx hb dX3_ground_50 (lv_at hl 7 rfl) ?_
        refine g_call1 (va_runS (As := [.int to]) (rest := [.ref (xa x 38)]) ⟨hx, hb, hml, hown, hts⟩ (c_X3_isMonth l x M to) (va_cwS 1 hts gX3_ground_X3_isMonth rfl rfl rfl (by decide +kernel) ⟨Nat.le_of_ble_eq_true rfl, Nat.le_of_ble_eq_true rfl⟩) (g_preS hS hZ hP hV [.int to]) rfl rfl hl.1 rfl (lv_room (Nat.le_of_ble_eq_true rfl)) dX3_ground_52 ⟨Nat.le_of_ble_eq_true rfl, Nat.le_of_ble_eq_true rfl⟩) hV (fun H locs hP hV => ?_)
        refine h_if_ne_b (tgt := 62) hx hb dX3_ground_55 (by decide) (fun c_5 => ?_) (fun c_5 => ?_)
        · -- taken
          refine lv_aload_n hx hb dX3_ground_62 rfl (lv_at hl 1 rfl) ?_
          refine g_get (C := RX3) (T := TX3) (N := 22) (v := .int (nI gn)) hx hb hts hinX3 hown hS hP (id := 38) (by decide) rfl rfl 9 (by decide) hw_f133 (congrArg (fun z => some (Value.int z)) hM.g) dX3_ground_63 ?_
          refine lv_iconst (v := 5) hx hb dX3_ground_66 (by decide) ?_
          refine h_icmp_ne_n (a := gn) (b := 5) (tgt := 74) hx hb (by omega) (by omega) dX3_ground_67 (by decide) (fun c_6 => ?_) (fun c_6 => ?_)
          · -- taken
            refine lv_iconst (v := 0) hx hb dX3_ground_74 (by decide) ?_
            refine g_call1 (va_runV (As := [.int 0]) (rest := []) ⟨hx, hb, hml, hown, hts⟩ (c_X3_holds l x M 0) (cwV 1 hts gX3_ground_X3_holds rfl rfl rfl (by decide +kernel) ⟨Nat.le_of_ble_eq_true rfl, Nat.le_of_ble_eq_true rfl⟩) (g_preV hS hZ hP hV [.int 0] (id := 38) (by decide) rfl rfl) rfl rfl hl.1 rfl (lv_room (Nat.le_of_ble_eq_true rfl)) dX3_ground_75 ⟨Nat.le_of_ble_eq_true rfl, Nat.le_of_ble_eq_true rfl⟩) hV (fun H locs hP hV => ?_)
            have hM0 : OkM (up2 M 38 0 0) cn gn dn pn := hM.h0
            refine h_if_ne_b (tgt := 83) hx hb dX3_ground_78 (by decide) (fun c_7 => ?_) (fun c_7 => ?_)
            · -- taken
              refine lv_aload_n hx hb dX3_ground_83 rfl (lv_at hl 1 rfl) ?_
              refine g_get (C := RX3) (T := TX3) (N := 22) (v := .ref (xa x 45)) hx hb hts hinX3 hown hS hP (id := 38) (by decide) rfl rfl 10 (by decide) hw_f29 rfl dX3_ground_84 ?_
              refine lv_aload_n hx hb dX3_ground_87 rfl (lv_at hl 1 rfl) ?_
              refine g_get (C := RX3) (T := TX3) (N := 22) (v := .int (nI gn)) hx hb hts hinX3 hown hS hP (id := 38) (by decide) rfl rfl 9 (by decide) hw_f133 (congrArg (fun z => some (Value.int z)) hM0.g) dX3_ground_88 ?_
              refine lv_iload_n hx hb dX3_ground_91 rfl (lv_at hl 2 rfl) ?_
              refine g_iast (j := gn) hx hb hS hP hV (id := 45) (by omega) (fun _ => rfl) (by decide) rfl (by omega) dX3_ground_92 (fun H locs hP hV => ?_)
              have hM2 : OkM (up2 (up2 M 38 0 0) 45 gn le) cn gn dn pn := hM0.up' (by omega) (by omega)
              refine lv_aload_n hx hb dX3_ground_93 rfl (lv_at hl 1 rfl) ?_
              refine g_get (C := RX3) (T := TX3) (N := 22) (v := .ref (xa x 46)) hx hb hts hinX3 hown hS hP (id := 38) (by decide) rfl rfl 11 (by decide) hw_f32 rfl dX3_ground_94 ?_
              refine lv_aload_n hx hb dX3_ground_97 rfl (lv_at hl 1 rfl) ?_
              refine g_get (C := RX3) (T := TX3) (N := 22) (v := .int (nI gn)) hx hb hts hinX3 hown hS hP (id := 38) (by decide) rfl rfl 9 (by decide) hw_f133 (congrArg (fun z => some (Value.int z)) hM2.g) dX3_ground_98 ?_
              refine lv_iload_n hx hb dX3_ground_101 rfl (lv_at hl 3 rfl) ?_
              refine g_iast (j := gn) hx hb hS hP hV (id := 46) (by omega) (fun _ => rfl) (by decide) rfl (by omega) dX3_ground_102 (fun H locs hP hV => ?_)
              have hM3 : OkM (up2 (up2 (up2 M 38 0 0) 45 gn le) 46 gn lo) cn gn dn pn := hM2.up' (by omega) (by omega)
              refine lv_aload_n hx hb dX3_ground_103 rfl (lv_at hl 1 rfl) ?_
              refine g_get (C := RX3) (T := TX3) (N := 22) (v := .ref (xa x 47)) hx hb hts hinX3 hown hS hP (id := 38) (by decide) rfl rfl 12 (by decide) hw_f35 rfl dX3_ground_104 ?_
              refine lv_aload_n hx hb dX3_ground_107 rfl (lv_at hl 1 rfl) ?_
              refine g_get (C := RX3) (T := TX3) (N := 22) (v := .int (nI gn)) hx hb hts hinX3 hown hS hP (id := 38) (by decide) rfl rfl 9 (by decide) hw_f133 (congrArg (fun z => some (Value.int z)) hM3.g) dX3_ground_108 ?_
              refine lv_iload_n hx hb dX3_ground_111 rfl (lv_at hl 4 rfl) ?_
              refine g_iast (j := gn) hx hb hS hP hV (id := 47) (by omega) (fun _ => rfl) (by decide) rfl (by omega) dX3_ground_112 (fun H locs hP hV => ?_)
              have hM4 : OkM (up2 (up2 (up2 (up2 M 38 0 0) 45 gn le) 46 gn lo) 47 gn ri) cn gn dn pn := hM3.up' (by omega) (by omega)
              refine lv_aload_n hx hb dX3_ground_113 rfl (lv_at hl 1 rfl) ?_
              refine g_get (C := RX3) (T := TX3) (N := 22) (v := .ref (xa x 48)) hx hb hts hinX3 hown hS hP (id := 38) (by decide) rfl rfl 13 (by decide) hw_f38 rfl dX3_ground_114 ?_
              refine lv_aload_n hx hb dX3_ground_117 rfl (lv_at hl 1 rfl) ?_
              refine g_get (C := RX3) (T := TX3) (N := 22) (v := .int (nI gn)) hx hb hts hinX3 hown hS hP (id := 38) (by decide) rfl rfl 9 (by decide) hw_f133 (congrArg (fun z => some (Value.int z)) hM4.g) dX3_ground_118 ?_
              refine lv_iload hx hb dX3_ground_121 (lv_at hl 5 rfl) ?_
              refine g_iast (j := gn) hx hb hS hP hV (id := 48) (by omega) (fun _ => rfl) (by decide) rfl (by omega) dX3_ground_123 (fun H locs hP hV => ?_)
              have hM5 : OkM (up2 (up2 (up2 (up2 (up2 M 38 0 0) 45 gn le) 46 gn lo) 47 gn ri) 48 gn hh) cn gn dn pn := hM4.up' (by omega) (by omega)
              refine lv_aload_n hx hb dX3_ground_124 rfl (lv_at hl 1 rfl) ?_
              refine g_get (C := RX3) (T := TX3) (N := 22) (v := .ref (xa x 49)) hx hb hts hinX3 hown hS hP (id := 38) (by decide) rfl rfl 14 (by decide) hw_f41 rfl dX3_ground_125 ?_
              refine lv_aload_n hx hb dX3_ground_128 rfl (lv_at hl 1 rfl) ?_
              refine g_get (C := RX3) (T := TX3) (N := 22) (v := .int (nI gn)) hx hb hts hinX3 hown hS hP (id := 38) (by decide) rfl rfl 9 (by decide) hw_f133 (congrArg (fun z => some (Value.int z)) hM5.g) dX3_ground_129 ?_
              refine lv_iload hx hb dX3_ground_132 (lv_at hl 6 rfl) ?_
              refine g_iast (j := gn) hx hb hS hP hV (id := 49) (by omega) (fun _ => rfl) (by decide) rfl (by omega) dX3_ground_134 (fun H locs hP hV => ?_)
              have hM6 : OkM (up2 (up2 (up2 (up2 (up2 (up2 M 38 0 0) 45 gn le) 46 gn lo) 47 gn ri) 48 gn hh) 49 gn fr) cn gn dn pn := hM5.up' (by omega) (by omega)
              refine lv_aload_n hx hb dX3_ground_135 rfl (lv_at hl 1 rfl) ?_
              refine g_get (C := RX3) (T := TX3) (N := 22) (v := .ref (xa x 50)) hx hb hts hinX3 hown hS hP (id := 38) (by decide) rfl rfl 15 (by decide) hw_f44 rfl dX3_ground_136 ?_
              refine lv_aload_n hx hb dX3_ground_139 rfl (lv_at hl 1 rfl) ?_
              refine g_get (C := RX3) (T := TX3) (N := 22) (v := .int (nI gn)) hx hb hts hinX3 hown hS hP (id := 38) (by decide) rfl rfl 9 (by decide) hw_f133 (congrArg (fun z => some (Value.int z)) hM6.g) dX3_ground_140 ?_
              refine lv_iload hx hb dX3_ground_143 (lv_at hl 7 rfl) ?_
              refine g_iast (j := gn) hx hb hS hP hV (id := 50) (by omega) (fun _ => rfl) (by decide) rfl (by omega) dX3_ground_145 (fun H locs hP hV => ?_)
              have hM7 : OkM (up2 (up2 (up2 (up2 (up2 (up2 (up2 M 38 0 0) 45 gn le) 46 gn lo) 47 gn ri) 48 gn hh) 49 gn fr) 50 gn to) cn gn dn pn := hM6.up' (by omega) (by omega)
              refine lv_aload_n hx hb dX3_ground_146 rfl (lv_at hl 1 rfl) ?_
              refine lv_dup hx hb dX3_ground_147 rfl ?_
              refine g_get (C := RX3) (T := TX3) (N := 22) (v := .int (nI gn)) hx hb hts hinX3 hown hS hP (id := 38) (by decide) rfl rfl 9 (by decide) hw_f133 (congrArg (fun z => some (Value.int z)) hM7.g) dX3_ground_148 ?_
              refine lv_iconst (v := 1) hx hb dX3_ground_151 (by decide) ?_
              refine h_iadd (v := nI (gn + 1)) hx hb dX3_ground_152 (nI_add (gn) (1)) ?_
              refine g_put (C := RX3) (T := TX3) (N := 22) hx hb hts hinX3 tyX3 tyX3_ok nmX3 hown hS hP hV (id := 38) (by decide) rfl rfl 9 (by decide) hw_f133 rfl (by decide +kernel) (Nat.le_of_ble_eq_true rfl) rfl dX3_ground_153 (fun H locs hP hV => ?_)
              refine lv_aload_n hx hb dX3_ground_156 rfl (lv_at hl 1 rfl) ?_
              refine g_get (C := RX3) (T := TX3) (N := 22) (v := .int (nI (gn + 1))) hx hb hts hinX3 hown hS hP (id := 38) (by decide) rfl rfl 9 (by decide) hw_f133 (congrArg (fun z => some (Value.int z)) (rfl)) dX3_ground_157 ?_
              refine lv_iconst (v := 1) hx hb dX3_ground_160 (by decide) ?_
              refine h_isub (v := nI gn) hx hb dX3_ground_161 (h_sub gn 1) ?_
              exact g_iret hx hb hr hlk hS hZ hP hV (Nat.le_of_ble_eq_true rfl) (Nat.le_of_ble_eq_true rfl) dX3_ground_162 (by refine Eq.trans ?_ (if_pos (show cdGr gn le lo ri hh fr to = 0 from by simp [cdGr, c_1, c_3, c_5, c_6, c_7])).symm; rfl) (by refine Eq.trans ?_ (if_pos (show cdGr gn le lo ri hh fr to = 0 from by simp [cdGr, c_1, c_3, c_5, c_6, c_7])).symm; rfl)
            · -- on
              exact absurd c_7 (by decide)
          · -- on
            refine lv_iconst (v := 2) hx hb dX3_ground_70 (by decide) ?_
            refine lv_goto (tgt := 75) hx hb dX3_ground_71 (by decide) ?_
            refine g_call1 (va_runV (As := [.int 2]) (rest := []) ⟨hx, hb, hml, hown, hts⟩ (c_X3_holds l x M 2) (cwV 1 hts gX3_ground_X3_holds rfl rfl rfl (by decide +kernel) ⟨Nat.le_of_ble_eq_true rfl, Nat.le_of_ble_eq_true rfl⟩) (g_preV hS hZ hP hV [.int 2] (id := 38) (by decide) rfl rfl) rfl rfl hl.1 rfl (lv_room (Nat.le_of_ble_eq_true rfl)) dX3_ground_75 ⟨Nat.le_of_ble_eq_true rfl, Nat.le_of_ble_eq_true rfl⟩) hV (fun H locs hP hV => ?_)
            have hM0 : OkM (up2 M 38 0 2) cn gn dn pn := hM.h0
            refine h_if_ne_b (tgt := 83) hx hb dX3_ground_78 (by decide) (fun c_8 => ?_) (fun c_8 => ?_)
            · -- taken
              exact absurd c_8 (by decide)
            · -- on
              refine lv_iconst (v := 0) hx hb dX3_ground_81 (by decide) ?_
              exact g_iret hx hb hr hlk hS hZ hP hV (Nat.le_of_ble_eq_true rfl) (Nat.le_of_ble_eq_true rfl) dX3_ground_82 (by exact (if_neg (fun z => absurd ((show cdGr gn le lo ri hh fr to = 2 from by simp [cdGr, c_1, c_3, c_5, c_6, c_8]).symm.trans z) (by decide))).symm) (by have hcd := (show cdGr gn le lo ri hh fr to = 2 from by simp [cdGr, c_1, c_3, c_5, c_6, c_8]); rw [if_neg (fun z => absurd (hcd.symm.trans z) (by decide)), hcd])
        · -- on
          refine lv_iconst (v := 1) hx hb dX3_ground_58 (by decide) ?_
          refine lv_goto (tgt := 75) hx hb dX3_ground_59 (by decide) ?_
          refine g_call1 (va_runV (As := [.int 1]) (rest := []) ⟨hx, hb, hml, hown, hts⟩ (c_X3_holds l x M 1) (cwV 1 hts gX3_ground_X3_holds rfl rfl rfl (by decide +kernel) ⟨Nat.le_of_ble_eq_true rfl, Nat.le_of_ble_eq_true rfl⟩) (g_preV hS hZ hP hV [.int 1] (id := 38) (by decide) rfl rfl) rfl rfl hl.1 rfl (lv_room (Nat.le_of_ble_eq_true rfl)) dX3_ground_75 ⟨Nat.le_of_ble_eq_true rfl, Nat.le_of_ble_eq_true rfl⟩) hV (fun H locs hP hV => ?_)
          have hM0 : OkM (up2 M 38 0 1) cn gn dn pn := hM.h0
          refine h_if_ne_b (tgt := 83) hx hb dX3_ground_78 (by decide) (fun c_9 => ?_) (fun c_9 => ?_)
          · -- taken
            exact absurd c_9 (by decide)
          · -- on
            refine lv_iconst (v := 0) hx hb dX3_ground_81 (by decide) ?_
            exact g_iret hx hb hr hlk hS hZ hP hV (Nat.le_of_ble_eq_true rfl) (Nat.le_of_ble_eq_true rfl) dX3_ground_82 (by exact (if_neg (fun z => absurd ((show cdGr gn le lo ri hh fr to = 1 from by simp [cdGr, c_1, c_3, c_5, c_9]).symm.trans z) (by decide))).symm) (by have hcd := (show cdGr gn le lo ri hh fr to = 1 from by simp [cdGr, c_1, c_3, c_5, c_9]); rw [if_neg (fun z => absurd (hcd.symm.trans z) (by decide)), hcd])
  refine lv_iload_n hx hb dX3_ground_0 rfl (lv_at hl 1 rfl) ?_
  refine lv_iload_n hx hb dX3_ground_1 rfl (lv_at hl 2 rfl) ?_
  refine g_call1 (va_runS (As := [.int le, .int lo]) (rest := []) ⟨hx, hb, hml, hown, hts⟩ (c_X3_isPlace l x M le lo) (va_cwS 2 hts gX3_ground_X3_isPlace rfl rfl rfl (by decide +kernel) ⟨Nat.le_of_ble_eq_true rfl, Nat.le_of_ble_eq_true rfl⟩) (g_preS hS hZ hP hV [.int le, .int lo]) rfl rfl hl.1 rfl (lv_room (Nat.le_of_ble_eq_true rfl)) dX3_ground_2 ⟨Nat.le_of_ble_eq_true rfl, Nat.le_of_ble_eq_true rfl⟩) hV (fun H locs hP hV => ?_)
  refine h_if_eq_b (tgt := 33) hx hb dX3_ground_5 (by decide) (fun c_10 => ?_) (fun c_10 => ?_)
  · -- taken
    refine lv_iconst (v := 0) hx hb dX3_ground_33 (by decide) ?_
    exact J_34 _ (by simp [arM, bI, c_10]) _ _ hP hV ls hl
  · -- on
    refine lv_iload_n hx hb dX3_ground_8 rfl (lv_at hl 3 rfl) ?_
    refine lv_iload_n hx hb dX3_ground_9 rfl (lv_at hl 1 rfl) ?_
    refine lv_bipush (v := 99) hx hb dX3_ground_10 (by decide) ?_
    refine g_call1 (va_runS (As := [.int ri, .int le, .int 99]) (rest := []) ⟨hx, hb, hml, hown, hts⟩ (c_X3_in l x M ri le 99) (va_cwS 3 hts gX3_ground_X3_in rfl rfl rfl (by decide +kernel) ⟨Nat.le_of_ble_eq_true rfl, Nat.le_of_ble_eq_true rfl⟩) (g_preS hS hZ hP hV [.int ri, .int le, .int 99]) rfl rfl hl.1 rfl (lv_room (Nat.le_of_ble_eq_true rfl)) dX3_ground_12 ⟨Nat.le_of_ble_eq_true rfl, Nat.le_of_ble_eq_true rfl⟩) hV (fun H locs hP hV => ?_)
    refine h_if_eq_b (tgt := 33) hx hb dX3_ground_15 (by decide) (fun c_11 => ?_) (fun c_11 => ?_)
    · -- taken
      refine lv_iconst (v := 0) hx hb dX3_ground_33 (by decide) ?_
      exact J_34 _ (by simp [arM, bI, c_10, c_11]) _ _ hP hV ls hl
    · -- on
      refine lv_iload hx hb dX3_ground_18 (lv_at hl 4 rfl) ?_
      refine lv_iload_n hx hb dX3_ground_20 rfl (lv_at hl 2 rfl) ?_
      refine lv_bipush (v := 99) hx hb dX3_ground_21 (by decide) ?_
      refine g_call1 (va_runS (As := [.int hh, .int lo, .int 99]) (rest := []) ⟨hx, hb, hml, hown, hts⟩ (c_X3_in l x M hh lo 99) (va_cwS 3 hts gX3_ground_X3_in rfl rfl rfl (by decide +kernel) ⟨Nat.le_of_ble_eq_true rfl, Nat.le_of_ble_eq_true rfl⟩) (g_preS hS hZ hP hV [.int hh, .int lo, .int 99]) rfl rfl hl.1 rfl (lv_room (Nat.le_of_ble_eq_true rfl)) dX3_ground_23 ⟨Nat.le_of_ble_eq_true rfl, Nat.le_of_ble_eq_true rfl⟩) hV (fun H locs hP hV => ?_)
      refine h_if_eq_b (tgt := 33) hx hb dX3_ground_26 (by decide) (fun c_12 => ?_) (fun c_12 => ?_)
      · -- taken
        refine lv_iconst (v := 0) hx hb dX3_ground_33 (by decide) ?_
        exact J_34 _ (by simp [arM, bI, c_10, c_11, c_12]) _ _ hP hV ls hl
      · -- on
        refine lv_iconst (v := 1) hx hb dX3_ground_29 (by decide) ?_
        refine lv_goto (tgt := 34) hx hb dX3_ground_30 (by decide) ?_
        exact J_34 _ (by simp [arM, bI, c_10, c_11, c_12]) _ _ hP hV ls hl
set_option maxHeartbeats 4000000 in
set_option maxRecDepth 100000 in
theorem c_X3_tell (l : Launch) (x : Cx) (M : Nat → Nat → Int32) (cn gn dn : Nat) (pn : Nat → Nat) (g am : Int32) (hM : OkM M cn gn dn pn) : Met l yX3_tell wsX3_tell ({ frames := 2, cells := 0, slots := 0, locals := 43 }) (gP x M [.ref (xa x 38), .int g, .int am]) (gQ x (some (.int (if cdTe M gn g am = 0 then prM (twM M (tn g) am 52 (tn g)) (twM M (tn g) am 51 (tn g)) else 0))) (if cdTe M gn g am = 0 then twM M (tn g) am else up2 M 38 0 (cdTe M gn g am))) 0 0 (gF x) := by
  refine g_met (cc := cX3_tell) (maxL := 4) (ret := some .int) (by decide) rfl (Nat.le_of_ble_eq_true rfl) ?_
  intro p e s m below meth c hx hb hr hml hts hown hlk hS hZ hP hV ls hl
  have hl : lv_has ls 4 [(0, .ref (xa x 38)), (1, .int g), (2, .int am)] := hl
  have hw_k142 := hts (.constant RX3 142 1000000) (by decide +kernel)
  have hw_f50 := hts (.fieldLink RX3 50 "CableOfficeModel" "years" "[I") (by decide +kernel)
  have hinX3 : ∀ w ∈ wsX30, w ∈ wsX3_tell := by decide +kernel
  have hw_f47 := hts (.fieldLink RX3 47 "CableOfficeModel" "sums" "[I") (by decide +kernel)
  have hc8 := hM.c8
  have hg5 := hM.g5
  have hd8 := hM.d8
  refine lv_aload_n hx hb dX3_tell_0 rfl (lv_at hl 0 rfl) ?_
  refine lv_iload_n hx hb dX3_tell_1 rfl (lv_at hl 1 rfl) ?_
  refine g_call1 (va_runV (As := [.int g]) (rest := []) ⟨hx, hb, hml, hown, hts⟩ (c_X3_isGround l x M cn gn dn pn g hM) (cwV 1 hts gX3_tell_X3_isGround rfl rfl rfl (by decide +kernel) ⟨Nat.le_of_ble_eq_true rfl, Nat.le_of_ble_eq_true rfl⟩) (g_preV hS hZ hP hV [.int g] (id := 38) (by decide) rfl rfl) rfl rfl hl.1 rfl (lv_room (Nat.le_of_ble_eq_true rfl)) dX3_tell_2 ⟨Nat.le_of_ble_eq_true rfl, Nat.le_of_ble_eq_true rfl⟩) hV (fun H locs hP hV => ?_)
  refine lv_istore_n (lv' := [(3, .int (bI (cbM gn g))), (0, .ref (xa x 38)), (1, .int g), (2, .int am)]) hx hb dX3_tell_5 rfl hl (by decide) rfl (fun ls hl => ?_)
  refine lv_aload_n hx hb dX3_tell_6 rfl (lv_at hl 1 rfl) ?_
  refine lv_iload_n hx hb dX3_tell_7 rfl (lv_at hl 0 rfl) ?_
  refine h_if_ne_b (tgt := 15) hx hb dX3_tell_8 (by decide) (fun c_1 => ?_) (fun c_1 => ?_)
  · -- taken
    obtain ⟨u, hu, eg⟩ := cbM_true (show gn ≤ 8 by omega) c_1
    rw [eg] at hl
    refine lv_iload_n hx hb dX3_tell_15 rfl (lv_at hl 3 rfl) ?_
    refine lv_iconst (v := 0) hx hb dX3_tell_16 (by decide) ?_
    refine lv_ldc (v := 1000000) hx hb hown hw_k142 dX3_tell_17 ?_
    refine g_call1 (va_runS (As := [.int am, .int 0, .int 1000000]) (rest := [.ref (xa x 38)]) ⟨hx, hb, hml, hown, hts⟩ (c_X3_in l x M am 0 1000000) (va_cwS 3 hts gX3_tell_X3_in rfl rfl rfl (by decide +kernel) ⟨Nat.le_of_ble_eq_true rfl, Nat.le_of_ble_eq_true rfl⟩) (g_preS hS hZ hP hV [.int am, .int 0, .int 1000000]) rfl rfl hl.1 rfl (lv_room (Nat.le_of_ble_eq_true rfl)) dX3_tell_19 ⟨Nat.le_of_ble_eq_true rfl, Nat.le_of_ble_eq_true rfl⟩) hV (fun H locs hP hV => ?_)
    refine h_if_ne_b (tgt := 29) hx hb dX3_tell_22 (by decide) (fun c_2 => ?_) (fun c_2 => ?_)
    · -- taken
      refine lv_aload_n hx hb dX3_tell_29 rfl (lv_at hl 1 rfl) ?_
      refine g_get (C := RX3) (T := TX3) (N := 22) (v := .ref (xa x 52)) hx hb hts hinX3 hown hS hP (id := 38) (by decide) rfl rfl 17 (by decide) hw_f50 rfl dX3_tell_30 ?_
      refine lv_iload_n hx hb dX3_tell_33 rfl (lv_at hl 2 rfl) ?_
      refine g_iald (j := u) hx hb hS hP (id := 52) (by omega) ((fun _ => rfl) _) (by decide) rfl (by omega) dX3_tell_34 ?_
      refine lv_bipush (v := 100) hx hb dX3_tell_35 (by decide) ?_
      refine lv_icmp_ne (tgt := 44) hx hb dX3_tell_37 (by decide) (fun c_3 => ?_) (fun c_3 => ?_)
      · -- taken
        refine lv_iconst (v := 0) hx hb dX3_tell_44 (by decide) ?_
        refine g_call1 (va_runV (As := [.int 0]) (rest := []) ⟨hx, hb, hml, hown, hts⟩ (c_X3_holds l x M 0) (cwV 1 hts gX3_tell_X3_holds rfl rfl rfl (by decide +kernel) ⟨Nat.le_of_ble_eq_true rfl, Nat.le_of_ble_eq_true rfl⟩) (g_preV hS hZ hP hV [.int 0] (id := 38) (by decide) rfl rfl) rfl rfl hl.1 rfl (lv_room (Nat.le_of_ble_eq_true rfl)) dX3_tell_45 ⟨Nat.le_of_ble_eq_true rfl, Nat.le_of_ble_eq_true rfl⟩) hV (fun H locs hP hV => ?_)
        have hM0 : OkM (up2 M 38 0 0) cn gn dn pn := hM.h0
        refine h_if_ne_b (tgt := 53) hx hb dX3_tell_48 (by decide) (fun c_4 => ?_) (fun c_4 => ?_)
        · -- taken
          refine lv_aload_n hx hb dX3_tell_53 rfl (lv_at hl 1 rfl) ?_
          refine g_get (C := RX3) (T := TX3) (N := 22) (v := .ref (xa x 51)) hx hb hts hinX3 hown hS hP (id := 38) (by decide) rfl rfl 16 (by decide) hw_f47 rfl dX3_tell_54 ?_
          refine lv_iload_n hx hb dX3_tell_57 rfl (lv_at hl 2 rfl) ?_
          refine lv_dup2_11 hx hb dX3_tell_58 rfl rfl ?_
          refine g_iald (j := u) hx hb hS hP (id := 51) (by omega) ((fun _ => rfl) _) (by decide) rfl (by omega) dX3_tell_59 ?_
          refine lv_iload_n hx hb dX3_tell_60 rfl (lv_at hl 3 rfl) ?_
          refine lv_iadd hx hb dX3_tell_61 ?_
          refine g_iast (j := u) hx hb hS hP hV (id := 51) (by omega) (fun _ => rfl) (by decide) rfl (by omega) dX3_tell_62 (fun H locs hP hV => ?_)
          refine lv_aload_n hx hb dX3_tell_63 rfl (lv_at hl 1 rfl) ?_
          refine g_get (C := RX3) (T := TX3) (N := 22) (v := .ref (xa x 52)) hx hb hts hinX3 hown hS hP (id := 38) (by decide) rfl rfl 17 (by decide) hw_f50 rfl dX3_tell_64 ?_
          refine lv_iload_n hx hb dX3_tell_67 rfl (lv_at hl 2 rfl) ?_
          refine lv_dup2_11 hx hb dX3_tell_68 rfl rfl ?_
          refine g_iald (j := u) hx hb hS hP (id := 52) (by omega) ((fun _ => rfl) _) (by decide) rfl (by omega) dX3_tell_69 ?_
          refine lv_iconst (v := 1) hx hb dX3_tell_70 (by decide) ?_
          refine lv_iadd hx hb dX3_tell_71 ?_
          refine g_iast (j := u) hx hb hS hP hV (id := 52) (by omega) (fun _ => rfl) (by decide) rfl (by omega) dX3_tell_72 (fun H locs hP hV => ?_)
          refine lv_aload_n hx hb dX3_tell_73 rfl (lv_at hl 1 rfl) ?_
          refine lv_iload_n hx hb dX3_tell_74 rfl (lv_at hl 2 rfl) ?_
          refine g_call1 (va_runV (As := [.int (nI u)]) (rest := []) ⟨hx, hb, hml, hown, hts⟩ (c_X3_price l x (twM M u am) u (by omega)) (cwV 1 hts gX3_tell_X3_price rfl rfl rfl (by decide +kernel) ⟨Nat.le_of_ble_eq_true rfl, Nat.le_of_ble_eq_true rfl⟩) (g_preV hS hZ hP hV [.int (nI u)] (id := 38) (by decide) rfl rfl) rfl rfl hl.1 rfl (lv_room (Nat.le_of_ble_eq_true rfl)) dX3_tell_75 ⟨Nat.le_of_ble_eq_true rfl, Nat.le_of_ble_eq_true rfl⟩) hV (fun H locs hP hV => ?_)
          exact g_iret hx hb hr hlk hS hZ hP hV (Nat.le_of_ble_eq_true rfl) (Nat.le_of_ble_eq_true rfl) dX3_tell_78 (by refine Eq.trans ?_ (if_pos (show cdTe M gn g am = 0 from by subst eg; simp [cdTe, c_1, c_2, c_3, c_4, tn_nI (show u < 2 ^ 31 by omega)])).symm; subst eg; simp only [tn_nI (show u < 2 ^ 31 by omega)]) (by refine Eq.trans ?_ (if_pos (show cdTe M gn g am = 0 from by subst eg; simp [cdTe, c_1, c_2, c_3, c_4, tn_nI (show u < 2 ^ 31 by omega)])).symm; subst eg; simp only [tn_nI (show u < 2 ^ 31 by omega)])
        · -- on
          exact absurd c_4 (by decide)
      · -- on
        refine lv_iconst (v := 3) hx hb dX3_tell_40 (by decide) ?_
        refine lv_goto (tgt := 45) hx hb dX3_tell_41 (by decide) ?_
        refine g_call1 (va_runV (As := [.int 3]) (rest := []) ⟨hx, hb, hml, hown, hts⟩ (c_X3_holds l x M 3) (cwV 1 hts gX3_tell_X3_holds rfl rfl rfl (by decide +kernel) ⟨Nat.le_of_ble_eq_true rfl, Nat.le_of_ble_eq_true rfl⟩) (g_preV hS hZ hP hV [.int 3] (id := 38) (by decide) rfl rfl) rfl rfl hl.1 rfl (lv_room (Nat.le_of_ble_eq_true rfl)) dX3_tell_45 ⟨Nat.le_of_ble_eq_true rfl, Nat.le_of_ble_eq_true rfl⟩) hV (fun H locs hP hV => ?_)
        have hM0 : OkM (up2 M 38 0 3) cn gn dn pn := hM.h0
        refine h_if_ne_b (tgt := 53) hx hb dX3_tell_48 (by decide) (fun c_5 => ?_) (fun c_5 => ?_)
        · -- taken
          exact absurd c_5 (by decide)
        · -- on
          refine lv_iconst (v := 0) hx hb dX3_tell_51 (by decide) ?_
          exact g_iret hx hb hr hlk hS hZ hP hV (Nat.le_of_ble_eq_true rfl) (Nat.le_of_ble_eq_true rfl) dX3_tell_52 (by exact (if_neg (fun z => absurd ((show cdTe M gn g am = 3 from by subst eg; simp [cdTe, c_1, c_2, c_3, c_5, tn_nI (show u < 2 ^ 31 by omega)]).symm.trans z) (by decide))).symm) (by have hcd := (show cdTe M gn g am = 3 from by subst eg; simp [cdTe, c_1, c_2, c_3, c_5, tn_nI (show u < 2 ^ 31 by omega)]); rw [if_neg (fun z => absurd (hcd.symm.trans z) (by decide)), hcd])
    · -- on
      refine lv_iconst (v := 2) hx hb dX3_tell_25 (by decide) ?_
      refine lv_goto (tgt := 45) hx hb dX3_tell_26 (by decide) ?_
      refine g_call1 (va_runV (As := [.int 2]) (rest := []) ⟨hx, hb, hml, hown, hts⟩ (c_X3_holds l x M 2) (cwV 1 hts gX3_tell_X3_holds rfl rfl rfl (by decide +kernel) ⟨Nat.le_of_ble_eq_true rfl, Nat.le_of_ble_eq_true rfl⟩) (g_preV hS hZ hP hV [.int 2] (id := 38) (by decide) rfl rfl) rfl rfl hl.1 rfl (lv_room (Nat.le_of_ble_eq_true rfl)) dX3_tell_45 ⟨Nat.le_of_ble_eq_true rfl, Nat.le_of_ble_eq_true rfl⟩) hV (fun H locs hP hV => ?_)
      have hM0 : OkM (up2 M 38 0 2) cn gn dn pn := hM.h0
      refine h_if_ne_b (tgt := 53) hx hb dX3_tell_48 (by decide) (fun c_6 => ?_) (fun c_6 => ?_)
      · -- taken
        exact absurd c_6 (by decide)
      · -- on
        refine lv_iconst (v := 0) hx hb dX3_tell_51 (by decide) ?_
        exact g_iret hx hb hr hlk hS hZ hP hV (Nat.le_of_ble_eq_true rfl) (Nat.le_of_ble_eq_true rfl) dX3_tell_52 (by exact (if_neg (fun z => absurd ((show cdTe M gn g am = 2 from by subst eg; simp [cdTe, c_1, c_2, c_6, tn_nI (show u < 2 ^ 31 by omega)]).symm.trans z) (by decide))).symm) (by have hcd := (show cdTe M gn g am = 2 from by subst eg; simp [cdTe, c_1, c_2, c_6, tn_nI (show u < 2 ^ 31 by omega)]); rw [if_neg (fun z => absurd (hcd.symm.trans z) (by decide)), hcd])
  · -- on
    refine lv_iconst (v := 1) hx hb dX3_tell_11 (by decide) ?_
    refine lv_goto (tgt := 45) hx hb dX3_tell_12 (by decide) ?_
    refine g_call1 (va_runV (As := [.int 1]) (rest := []) ⟨hx, hb, hml, hown, hts⟩ (c_X3_holds l x M 1) (cwV 1 hts gX3_tell_X3_holds rfl rfl rfl (by decide +kernel) ⟨Nat.le_of_ble_eq_true rfl, Nat.le_of_ble_eq_true rfl⟩) (g_preV hS hZ hP hV [.int 1] (id := 38) (by decide) rfl rfl) rfl rfl hl.1 rfl (lv_room (Nat.le_of_ble_eq_true rfl)) dX3_tell_45 ⟨Nat.le_of_ble_eq_true rfl, Nat.le_of_ble_eq_true rfl⟩) hV (fun H locs hP hV => ?_)
    have hM0 : OkM (up2 M 38 0 1) cn gn dn pn := hM.h0
    refine h_if_ne_b (tgt := 53) hx hb dX3_tell_48 (by decide) (fun c_7 => ?_) (fun c_7 => ?_)
    · -- taken
      exact absurd c_7 (by decide)
    · -- on
      refine lv_iconst (v := 0) hx hb dX3_tell_51 (by decide) ?_
      exact g_iret hx hb hr hlk hS hZ hP hV (Nat.le_of_ble_eq_true rfl) (Nat.le_of_ble_eq_true rfl) dX3_tell_52 (by exact (if_neg (fun z => absurd ((show cdTe M gn g am = 1 from by simp [cdTe, c_1, c_7]).symm.trans z) (by decide))).symm) (by have hcd := (show cdTe M gn g am = 1 from by simp [cdTe, c_1, c_7]); rw [if_neg (fun z => absurd (hcd.symm.trans z) (by decide)), hcd])
set_option maxHeartbeats 4000000 in
set_option maxRecDepth 100000 in
theorem c_X3_isClosed (l : Launch) (x : Cx) (M : Nat → Nat → Int32) (cn gn dn : Nat) (pn : Nat → Nat) (g mo : Int32) (hM : OkM M cn gn dn pn) : Met l yX3_isClosed wsX3_isClosed ({ frames := 2, cells := 0, slots := 0, locals := 46 }) (gP x M [.ref (xa x 38), .int g, .int mo]) (gQ x (some (.int (if (if cbM gn g = false then 1 else if moM mo = true then 0 else 2 : Int32) = 0 then bI (clM (M 49 (tn g)) (M 50 (tn g)) mo) else 0))) (if (if cbM gn g = false then 1 else if moM mo = true then 0 else 2 : Int32) = 0 then up2 M 38 0 0 else up2 M 38 0 ((if cbM gn g = false then 1 else if moM mo = true then 0 else 2 : Int32)))) 0 0 (gF x) := by
  refine g_met (cc := cX3_isClosed) (maxL := 3) (ret := some .boolean) (by decide) rfl (Nat.le_of_ble_eq_true rfl) ?_
  intro p e s m below meth c hx hb hr hml hts hown hlk hS hZ hP hV ls hl
  have hl : lv_has ls 3 [(0, .ref (xa x 38)), (1, .int g), (2, .int mo)] := hl
  have hc8 := hM.c8
  have hg5 := hM.g5
  have hd8 := hM.d8
  refine lv_aload_n hx hb dX3_isClosed_0 rfl (lv_at hl 0 rfl) ?_
  refine lv_aload_n hx hb dX3_isClosed_1 rfl (lv_at hl 0 rfl) ?_
  refine lv_iload_n hx hb dX3_isClosed_2 rfl (lv_at hl 1 rfl) ?_
  refine g_call1 (va_runV (As := [.int g]) (rest := [.ref (xa x 38)]) ⟨hx, hb, hml, hown, hts⟩ (c_X3_isGround l x M cn gn dn pn g hM) (cwV 1 hts gX3_isClosed_X3_isGround rfl rfl rfl (by decide +kernel) ⟨Nat.le_of_ble_eq_true rfl, Nat.le_of_ble_eq_true rfl⟩) (g_preV hS hZ hP hV [.int g] (id := 38) (by decide) rfl rfl) rfl rfl hl.1 rfl (lv_room (Nat.le_of_ble_eq_true rfl)) dX3_isClosed_3 ⟨Nat.le_of_ble_eq_true rfl, Nat.le_of_ble_eq_true rfl⟩) hV (fun H locs hP hV => ?_)
  refine h_if_ne_b (tgt := 13) hx hb dX3_isClosed_6 (by decide) (fun c_1 => ?_) (fun c_1 => ?_)
  · -- taken
    obtain ⟨u, hu, eg⟩ := cbM_true (show gn ≤ 8 by omega) c_1
    rw [eg] at hl
    refine lv_iload_n hx hb dX3_isClosed_13 rfl (lv_at hl 2 rfl) ?_
    refine g_call1 (va_runS (As := [.int mo]) (rest := [.ref (xa x 38)]) ⟨hx, hb, hml, hown, hts⟩ (c_X3_isMonth l x M mo) (va_cwS 1 hts gX3_isClosed_X3_isMonth rfl rfl rfl (by decide +kernel) ⟨Nat.le_of_ble_eq_true rfl, Nat.le_of_ble_eq_true rfl⟩) (g_preS hS hZ hP hV [.int mo]) rfl rfl hl.1 rfl (lv_room (Nat.le_of_ble_eq_true rfl)) dX3_isClosed_14 ⟨Nat.le_of_ble_eq_true rfl, Nat.le_of_ble_eq_true rfl⟩) hV (fun H locs hP hV => ?_)
    refine h_if_eq_b (tgt := 24) hx hb dX3_isClosed_17 (by decide) (fun c_2 => ?_) (fun c_2 => ?_)
    · -- taken
      refine lv_iconst (v := 2) hx hb dX3_isClosed_24 (by decide) ?_
      refine g_call1 (va_runV (As := [.int 2]) (rest := []) ⟨hx, hb, hml, hown, hts⟩ (c_X3_holds l x M 2) (cwV 1 hts gX3_isClosed_X3_holds rfl rfl rfl (by decide +kernel) ⟨Nat.le_of_ble_eq_true rfl, Nat.le_of_ble_eq_true rfl⟩) (g_preV hS hZ hP hV [.int 2] (id := 38) (by decide) rfl rfl) rfl rfl hl.1 rfl (lv_room (Nat.le_of_ble_eq_true rfl)) dX3_isClosed_25 ⟨Nat.le_of_ble_eq_true rfl, Nat.le_of_ble_eq_true rfl⟩) hV (fun H locs hP hV => ?_)
      have hM0 : OkM (up2 M 38 0 2) cn gn dn pn := hM.h0
      refine h_if_eq_b (tgt := 44) hx hb dX3_isClosed_28 (by decide) (fun c_3 => ?_) (fun c_3 => ?_)
      · -- taken
        refine lv_iconst (v := 0) hx hb dX3_isClosed_44 (by decide) ?_
        exact g_zret hx hb hr hlk hS hZ hP hV (Nat.le_of_ble_eq_true rfl) (Nat.le_of_ble_eq_true rfl) dX3_isClosed_45 (by decide) (by exact (if_neg (fun z => absurd ((show (if cbM gn g = false then 1 else if moM mo = true then 0 else 2 : Int32) = 2 from by subst eg; simp [c_1, c_2, c_3, tn_nI (show u < 2 ^ 31 by omega)]).symm.trans z) (by decide))).symm) (by have hcd := (show (if cbM gn g = false then 1 else if moM mo = true then 0 else 2 : Int32) = 2 from by subst eg; simp [c_1, c_2, c_3, tn_nI (show u < 2 ^ 31 by omega)]); rw [if_neg (fun z => absurd (hcd.symm.trans z) (by decide)), hcd])
      · -- on
        exact absurd c_3 (by decide)
    · -- on
      refine lv_iconst (v := 0) hx hb dX3_isClosed_20 (by decide) ?_
      refine lv_goto (tgt := 25) hx hb dX3_isClosed_21 (by decide) ?_
      refine g_call1 (va_runV (As := [.int 0]) (rest := []) ⟨hx, hb, hml, hown, hts⟩ (c_X3_holds l x M 0) (cwV 1 hts gX3_isClosed_X3_holds rfl rfl rfl (by decide +kernel) ⟨Nat.le_of_ble_eq_true rfl, Nat.le_of_ble_eq_true rfl⟩) (g_preV hS hZ hP hV [.int 0] (id := 38) (by decide) rfl rfl) rfl rfl hl.1 rfl (lv_room (Nat.le_of_ble_eq_true rfl)) dX3_isClosed_25 ⟨Nat.le_of_ble_eq_true rfl, Nat.le_of_ble_eq_true rfl⟩) hV (fun H locs hP hV => ?_)
      have hM0 : OkM (up2 M 38 0 0) cn gn dn pn := hM.h0
      refine h_if_eq_b (tgt := 44) hx hb dX3_isClosed_28 (by decide) (fun c_4 => ?_) (fun c_4 => ?_)
      · -- taken
        exact absurd c_4 (by decide)
      · -- on
        refine lv_aload_n hx hb dX3_isClosed_31 rfl (lv_at hl 0 rfl) ?_
        refine lv_iload_n hx hb dX3_isClosed_32 rfl (lv_at hl 1 rfl) ?_
        refine lv_iload_n hx hb dX3_isClosed_33 rfl (lv_at hl 2 rfl) ?_
        refine g_call1 (va_runV (As := [.int (nI u), .int mo]) (rest := []) ⟨hx, hb, hml, hown, hts⟩ (c_X3_isClosedNow l x (up2 M 38 0 0) u mo (by omega)) (cwV 2 hts gX3_isClosed_X3_isClosedNow rfl rfl rfl (by decide +kernel) ⟨Nat.le_of_ble_eq_true rfl, Nat.le_of_ble_eq_true rfl⟩) (g_preV hS hZ hP hV [.int (nI u), .int mo] (id := 38) (by decide) rfl rfl) rfl rfl hl.1 rfl (lv_room (Nat.le_of_ble_eq_true rfl)) dX3_isClosed_34 ⟨Nat.le_of_ble_eq_true rfl, Nat.le_of_ble_eq_true rfl⟩) hV (fun H locs hP hV => ?_)
        refine h_if_eq_b (tgt := 44) hx hb dX3_isClosed_37 (by decide) (fun c_5 => ?_) (fun c_5 => ?_)
        · -- taken
          refine lv_iconst (v := 0) hx hb dX3_isClosed_44 (by decide) ?_
          exact g_zret hx hb hr hlk hS hZ hP hV (Nat.le_of_ble_eq_true rfl) (Nat.le_of_ble_eq_true rfl) dX3_isClosed_45 (by decide) (by refine Eq.trans ?_ (if_pos (show (if cbM gn g = false then 1 else if moM mo = true then 0 else 2 : Int32) = 0 from by subst eg; simp [c_1, c_2, c_4, c_5, tn_nI (show u < 2 ^ 31 by omega)])).symm; subst eg; simp only [tn_nI (show u < 2 ^ 31 by omega)]; exact congrArg bI c_5.symm) (by refine Eq.trans ?_ (if_pos (show (if cbM gn g = false then 1 else if moM mo = true then 0 else 2 : Int32) = 0 from by subst eg; simp [c_1, c_2, c_4, c_5, tn_nI (show u < 2 ^ 31 by omega)])).symm; subst eg; rfl)
        · -- on
          refine lv_iconst (v := 1) hx hb dX3_isClosed_40 (by decide) ?_
          refine lv_goto (tgt := 45) hx hb dX3_isClosed_41 (by decide) ?_
          exact g_zret hx hb hr hlk hS hZ hP hV (Nat.le_of_ble_eq_true rfl) (Nat.le_of_ble_eq_true rfl) dX3_isClosed_45 (by decide) (by refine Eq.trans ?_ (if_pos (show (if cbM gn g = false then 1 else if moM mo = true then 0 else 2 : Int32) = 0 from by subst eg; simp [c_1, c_2, c_4, c_5, tn_nI (show u < 2 ^ 31 by omega)])).symm; subst eg; simp only [tn_nI (show u < 2 ^ 31 by omega)]; exact congrArg bI c_5.symm) (by refine Eq.trans ?_ (if_pos (show (if cbM gn g = false then 1 else if moM mo = true then 0 else 2 : Int32) = 0 from by subst eg; simp [c_1, c_2, c_4, c_5, tn_nI (show u < 2 ^ 31 by omega)])).symm; subst eg; rfl)
  · -- on
    refine lv_iconst (v := 1) hx hb dX3_isClosed_9 (by decide) ?_
    refine lv_goto (tgt := 25) hx hb dX3_isClosed_10 (by decide) ?_
    refine g_call1 (va_runV (As := [.int 1]) (rest := []) ⟨hx, hb, hml, hown, hts⟩ (c_X3_holds l x M 1) (cwV 1 hts gX3_isClosed_X3_holds rfl rfl rfl (by decide +kernel) ⟨Nat.le_of_ble_eq_true rfl, Nat.le_of_ble_eq_true rfl⟩) (g_preV hS hZ hP hV [.int 1] (id := 38) (by decide) rfl rfl) rfl rfl hl.1 rfl (lv_room (Nat.le_of_ble_eq_true rfl)) dX3_isClosed_25 ⟨Nat.le_of_ble_eq_true rfl, Nat.le_of_ble_eq_true rfl⟩) hV (fun H locs hP hV => ?_)
    have hM0 : OkM (up2 M 38 0 1) cn gn dn pn := hM.h0
    refine h_if_eq_b (tgt := 44) hx hb dX3_isClosed_28 (by decide) (fun c_6 => ?_) (fun c_6 => ?_)
    · -- taken
      refine lv_iconst (v := 0) hx hb dX3_isClosed_44 (by decide) ?_
      exact g_zret hx hb hr hlk hS hZ hP hV (Nat.le_of_ble_eq_true rfl) (Nat.le_of_ble_eq_true rfl) dX3_isClosed_45 (by decide) (by exact (if_neg (fun z => absurd ((show (if cbM gn g = false then 1 else if moM mo = true then 0 else 2 : Int32) = 1 from by simp [c_1, c_6]).symm.trans z) (by decide))).symm) (by have hcd := (show (if cbM gn g = false then 1 else if moM mo = true then 0 else 2 : Int32) = 1 from by simp [c_1, c_6]); rw [if_neg (fun z => absurd (hcd.symm.trans z) (by decide)), hcd])
    · -- on
      exact absurd c_6 (by decide)
set_option maxHeartbeats 4000000 in
set_option maxRecDepth 100000 in
theorem c_X3_touches (l : Launch) (x : Cx) (M : Nat → Nat → Int32) (cn gn dn : Nat) (pn : Nat → Nat) (a q g : Int32) (hM : OkM M cn gn dn pn) : Met l yX3_touches wsX3_touches ({ frames := 4, cells := 0, slots := 0, locals := 111 }) (gP x M [.ref (xa x 38), .int a, .int q, .int g]) (gQ x (some (.int (if cd01 (pcM cn pn a q && cbM gn g) = 0 then bI (toM M (8 * tn a + tn q) (tn g)) else 0))) (if cd01 (pcM cn pn a q && cbM gn g) = 0 then up2 M 38 0 0 else up2 M 38 0 (cd01 (pcM cn pn a q && cbM gn g)))) 0 0 (gF x) := by
  refine g_met (cc := cX3_touches) (maxL := 4) (ret := some .boolean) (by decide) rfl (Nat.le_of_ble_eq_true rfl) ?_
  intro p e s m below meth c hx hb hr hml hts hown hlk hS hZ hP hV ls hl
  have hl : lv_has ls 4 [(0, .ref (xa x 38)), (1, .int a), (2, .int q), (3, .int g)] := hl
  have hc8 := hM.c8
  have hg5 := hM.g5
  have hd8 := hM.d8
  refine lv_aload_n hx hb dX3_touches_0 rfl (lv_at hl 0 rfl) ?_
  refine lv_aload_n hx hb dX3_touches_1 rfl (lv_at hl 0 rfl) ?_
  refine lv_iload_n hx hb dX3_touches_2 rfl (lv_at hl 1 rfl) ?_
  refine lv_iload_n hx hb dX3_touches_3 rfl (lv_at hl 2 rfl) ?_
  refine g_call1 (va_runV (As := [.int a, .int q]) (rest := [.ref (xa x 38)]) ⟨hx, hb, hml, hown, hts⟩ (c_X3_isPiece l x M cn gn dn pn a q hM) (cwV 2 hts gX3_touches_X3_isPiece rfl rfl rfl (by decide +kernel) ⟨Nat.le_of_ble_eq_true rfl, Nat.le_of_ble_eq_true rfl⟩) (g_preV hS hZ hP hV [.int a, .int q] (id := 38) (by decide) rfl rfl) rfl rfl hl.1 rfl (lv_room (Nat.le_of_ble_eq_true rfl)) dX3_touches_4 ⟨Nat.le_of_ble_eq_true rfl, Nat.le_of_ble_eq_true rfl⟩) hV (fun H locs hP hV => ?_)
  refine h_if_eq_b (tgt := 22) hx hb dX3_touches_7 (by decide) (fun c_1 => ?_) (fun c_1 => ?_)
  · -- taken
    refine lv_iconst (v := 1) hx hb dX3_touches_22 (by decide) ?_
    refine g_call1 (va_runV (As := [.int 1]) (rest := []) ⟨hx, hb, hml, hown, hts⟩ (c_X3_holds l x M 1) (cwV 1 hts gX3_touches_X3_holds rfl rfl rfl (by decide +kernel) ⟨Nat.le_of_ble_eq_true rfl, Nat.le_of_ble_eq_true rfl⟩) (g_preV hS hZ hP hV [.int 1] (id := 38) (by decide) rfl rfl) rfl rfl hl.1 rfl (lv_room (Nat.le_of_ble_eq_true rfl)) dX3_touches_23 ⟨Nat.le_of_ble_eq_true rfl, Nat.le_of_ble_eq_true rfl⟩) hV (fun H locs hP hV => ?_)
    have hM0 : OkM (up2 M 38 0 1) cn gn dn pn := hM.h0
    refine h_if_eq_b (tgt := 47) hx hb dX3_touches_26 (by decide) (fun c_2 => ?_) (fun c_2 => ?_)
    · -- taken
      refine lv_iconst (v := 0) hx hb dX3_touches_47 (by decide) ?_
      exact g_zret hx hb hr hlk hS hZ hP hV (Nat.le_of_ble_eq_true rfl) (Nat.le_of_ble_eq_true rfl) dX3_touches_48 (by decide) (by exact (if_neg (fun z => absurd ((show cd01 (pcM cn pn a q && cbM gn g) = 1 from by simp [cd01, c_1, c_2]).symm.trans z) (by decide))).symm) (by have hcd := (show cd01 (pcM cn pn a q && cbM gn g) = 1 from by simp [cd01, c_1, c_2]); rw [if_neg (fun z => absurd (hcd.symm.trans z) (by decide)), hcd])
    · -- on
      exact absurd c_2 (by decide)
  · -- on
    obtain ⟨j, k, hj, ea, hk, eb⟩ := pcM_true hM.c8 hM.pp c_1
    rw [ea, eb] at hl
    have h7j := hM.p7 hj
    refine lv_aload_n hx hb dX3_touches_10 rfl (lv_at hl 0 rfl) ?_
    refine lv_iload_n hx hb dX3_touches_11 rfl (lv_at hl 3 rfl) ?_
    refine g_call1 (va_runV (As := [.int g]) (rest := [.ref (xa x 38)]) ⟨hx, hb, hml, hown, hts⟩ (c_X3_isGround l x M cn gn dn pn g hM) (cwV 1 hts gX3_touches_X3_isGround rfl rfl rfl (by decide +kernel) ⟨Nat.le_of_ble_eq_true rfl, Nat.le_of_ble_eq_true rfl⟩) (g_preV hS hZ hP hV [.int g] (id := 38) (by decide) rfl rfl) rfl rfl hl.1 rfl (lv_room (Nat.le_of_ble_eq_true rfl)) dX3_touches_12 ⟨Nat.le_of_ble_eq_true rfl, Nat.le_of_ble_eq_true rfl⟩) hV (fun H locs hP hV => ?_)
    refine h_if_eq_b (tgt := 22) hx hb dX3_touches_15 (by decide) (fun c_3 => ?_) (fun c_3 => ?_)
    · -- taken
      refine lv_iconst (v := 1) hx hb dX3_touches_22 (by decide) ?_
      refine g_call1 (va_runV (As := [.int 1]) (rest := []) ⟨hx, hb, hml, hown, hts⟩ (c_X3_holds l x M 1) (cwV 1 hts gX3_touches_X3_holds rfl rfl rfl (by decide +kernel) ⟨Nat.le_of_ble_eq_true rfl, Nat.le_of_ble_eq_true rfl⟩) (g_preV hS hZ hP hV [.int 1] (id := 38) (by decide) rfl rfl) rfl rfl hl.1 rfl (lv_room (Nat.le_of_ble_eq_true rfl)) dX3_touches_23 ⟨Nat.le_of_ble_eq_true rfl, Nat.le_of_ble_eq_true rfl⟩) hV (fun H locs hP hV => ?_)
      have hM0 : OkM (up2 M 38 0 1) cn gn dn pn := hM.h0
      refine h_if_eq_b (tgt := 47) hx hb dX3_touches_26 (by decide) (fun c_4 => ?_) (fun c_4 => ?_)
      · -- taken
        refine lv_iconst (v := 0) hx hb dX3_touches_47 (by decide) ?_
        exact g_zret hx hb hr hlk hS hZ hP hV (Nat.le_of_ble_eq_true rfl) (Nat.le_of_ble_eq_true rfl) dX3_touches_48 (by decide) (by exact (if_neg (fun z => absurd ((show cd01 (pcM cn pn a q && cbM gn g) = 1 from by subst ea; subst eb; simp [cd01, c_1, c_3, c_4, tn_nI (show j < 2 ^ 31 by omega), tn_nI (show k < 2 ^ 31 by omega)]).symm.trans z) (by decide))).symm) (by have hcd := (show cd01 (pcM cn pn a q && cbM gn g) = 1 from by subst ea; subst eb; simp [cd01, c_1, c_3, c_4, tn_nI (show j < 2 ^ 31 by omega), tn_nI (show k < 2 ^ 31 by omega)]); rw [if_neg (fun z => absurd (hcd.symm.trans z) (by decide)), hcd])
      · -- on
        exact absurd c_4 (by decide)
    · -- on
      obtain ⟨u, hu, eg⟩ := cbM_true (show gn ≤ 8 by omega) c_3
      rw [eg] at hl
      refine lv_iconst (v := 0) hx hb dX3_touches_18 (by decide) ?_
      refine lv_goto (tgt := 23) hx hb dX3_touches_19 (by decide) ?_
      refine g_call1 (va_runV (As := [.int 0]) (rest := []) ⟨hx, hb, hml, hown, hts⟩ (c_X3_holds l x M 0) (cwV 1 hts gX3_touches_X3_holds rfl rfl rfl (by decide +kernel) ⟨Nat.le_of_ble_eq_true rfl, Nat.le_of_ble_eq_true rfl⟩) (g_preV hS hZ hP hV [.int 0] (id := 38) (by decide) rfl rfl) rfl rfl hl.1 rfl (lv_room (Nat.le_of_ble_eq_true rfl)) dX3_touches_23 ⟨Nat.le_of_ble_eq_true rfl, Nat.le_of_ble_eq_true rfl⟩) hV (fun H locs hP hV => ?_)
      have hM0 : OkM (up2 M 38 0 0) cn gn dn pn := hM.h0
      refine h_if_eq_b (tgt := 47) hx hb dX3_touches_26 (by decide) (fun c_5 => ?_) (fun c_5 => ?_)
      · -- taken
        exact absurd c_5 (by decide)
      · -- on
        refine lv_aload_n hx hb dX3_touches_29 rfl (lv_at hl 0 rfl) ?_
        refine lv_bipush (v := 8) hx hb dX3_touches_30 (by decide) ?_
        refine lv_iload_n hx hb dX3_touches_32 rfl (lv_at hl 1 rfl) ?_
        refine h_imul (v := nI (8 * j)) hx hb dX3_touches_33 (pk_mul (8) (j)) ?_
        refine lv_iload_n hx hb dX3_touches_34 rfl (lv_at hl 2 rfl) ?_
        refine h_iadd (v := nI (8 * j + k)) hx hb dX3_touches_35 (nI_add (8 * j) (k)) ?_
        refine lv_iload_n hx hb dX3_touches_36 rfl (lv_at hl 3 rfl) ?_
        refine g_call1 (va_runV (As := [.int (nI (8 * j + k)), .int (nI u)]) (rest := []) ⟨hx, hb, hml, hown, hts⟩ (c_X3_doTouch l x (up2 M 38 0 0) (8 * j + k) u (by omega) (by omega)) (cwV 2 hts gX3_touches_X3_doTouch rfl rfl rfl (by decide +kernel) ⟨Nat.le_of_ble_eq_true rfl, Nat.le_of_ble_eq_true rfl⟩) (g_preV hS hZ hP hV [.int (nI (8 * j + k)), .int (nI u)] (id := 38) (by decide) rfl rfl) rfl rfl hl.1 rfl (lv_room (Nat.le_of_ble_eq_true rfl)) dX3_touches_37 ⟨Nat.le_of_ble_eq_true rfl, Nat.le_of_ble_eq_true rfl⟩) hV (fun H locs hP hV => ?_)
        refine h_if_eq_b (tgt := 47) hx hb dX3_touches_40 (by decide) (fun c_6 => ?_) (fun c_6 => ?_)
        · -- taken
          refine lv_iconst (v := 0) hx hb dX3_touches_47 (by decide) ?_
          exact g_zret hx hb hr hlk hS hZ hP hV (Nat.le_of_ble_eq_true rfl) (Nat.le_of_ble_eq_true rfl) dX3_touches_48 (by decide) (by refine Eq.trans ?_ (if_pos (show cd01 (pcM cn pn a q && cbM gn g) = 0 from by subst ea; subst eb; subst eg; simp [cd01, c_1, c_3, c_5, c_6, tn_nI (show j < 2 ^ 31 by omega), tn_nI (show k < 2 ^ 31 by omega), tn_nI (show u < 2 ^ 31 by omega)])).symm; subst ea; subst eb; subst eg; simp only [tn_nI (show j < 2 ^ 31 by omega), tn_nI (show k < 2 ^ 31 by omega), tn_nI (show u < 2 ^ 31 by omega)]; exact congrArg bI c_6.symm) (by refine Eq.trans ?_ (if_pos (show cd01 (pcM cn pn a q && cbM gn g) = 0 from by subst ea; subst eb; subst eg; simp [cd01, c_1, c_3, c_5, c_6, tn_nI (show j < 2 ^ 31 by omega), tn_nI (show k < 2 ^ 31 by omega), tn_nI (show u < 2 ^ 31 by omega)])).symm; subst ea; subst eb; subst eg; rfl)
        · -- on
          refine lv_iconst (v := 1) hx hb dX3_touches_43 (by decide) ?_
          refine lv_goto (tgt := 48) hx hb dX3_touches_44 (by decide) ?_
          exact g_zret hx hb hr hlk hS hZ hP hV (Nat.le_of_ble_eq_true rfl) (Nat.le_of_ble_eq_true rfl) dX3_touches_48 (by decide) (by refine Eq.trans ?_ (if_pos (show cd01 (pcM cn pn a q && cbM gn g) = 0 from by subst ea; subst eb; subst eg; simp [cd01, c_1, c_3, c_5, c_6, tn_nI (show j < 2 ^ 31 by omega), tn_nI (show k < 2 ^ 31 by omega), tn_nI (show u < 2 ^ 31 by omega)])).symm; subst ea; subst eb; subst eg; simp only [tn_nI (show j < 2 ^ 31 by omega), tn_nI (show k < 2 ^ 31 by omega), tn_nI (show u < 2 ^ 31 by omega)]; exact congrArg bI c_6.symm) (by refine Eq.trans ?_ (if_pos (show cd01 (pcM cn pn a q && cbM gn g) = 0 from by subst ea; subst eb; subst eg; simp [cd01, c_1, c_3, c_5, c_6, tn_nI (show j < 2 ^ 31 by omega), tn_nI (show k < 2 ^ 31 by omega), tn_nI (show u < 2 ^ 31 by omega)])).symm; subst ea; subst eb; subst eg; rfl)
set_option maxHeartbeats 4000000 in
set_option maxRecDepth 100000 in
theorem c_X3_paid (l : Launch) (x : Cx) (M : Nat → Nat → Int32) (cn gn dn : Nat) (pn : Nat → Nat) (g : Int32) (hM : OkM M cn gn dn pn) : Met l yX3_paid wsX3_paid ({ frames := 2, cells := 0, slots := 0, locals := 43 }) (gP x M [.ref (xa x 38), .int g]) (gQ x (some (.int (if cd01 (cbM gn g) = 0 then M 53 (tn g) else 0))) (if cd01 (cbM gn g) = 0 then up2 M 38 0 0 else up2 M 38 0 (cd01 (cbM gn g)))) 0 0 (gF x) := by
  refine g_met (cc := cX3_paid) (maxL := 2) (ret := some .int) (by decide) rfl (Nat.le_of_ble_eq_true rfl) ?_
  intro p e s m below meth c hx hb hr hml hts hown hlk hS hZ hP hV ls hl
  have hl : lv_has ls 2 [(0, .ref (xa x 38)), (1, .int g)] := hl
  have hw_f53 := hts (.fieldLink RX3 53 "CableOfficeModel" "paid" "[I") (by decide +kernel)
  have hinX3 : ∀ w ∈ wsX30, w ∈ wsX3_paid := by decide +kernel
  have hc8 := hM.c8
  have hg5 := hM.g5
  have hd8 := hM.d8
  refine lv_aload_n hx hb dX3_paid_0 rfl (lv_at hl 0 rfl) ?_
  refine lv_aload_n hx hb dX3_paid_1 rfl (lv_at hl 0 rfl) ?_
  refine lv_iload_n hx hb dX3_paid_2 rfl (lv_at hl 1 rfl) ?_
  refine g_call1 (va_runV (As := [.int g]) (rest := [.ref (xa x 38)]) ⟨hx, hb, hml, hown, hts⟩ (c_X3_isGround l x M cn gn dn pn g hM) (cwV 1 hts gX3_paid_X3_isGround rfl rfl rfl (by decide +kernel) ⟨Nat.le_of_ble_eq_true rfl, Nat.le_of_ble_eq_true rfl⟩) (g_preV hS hZ hP hV [.int g] (id := 38) (by decide) rfl rfl) rfl rfl hl.1 rfl (lv_room (Nat.le_of_ble_eq_true rfl)) dX3_paid_3 ⟨Nat.le_of_ble_eq_true rfl, Nat.le_of_ble_eq_true rfl⟩) hV (fun H locs hP hV => ?_)
  refine h_if_eq_b (tgt := 13) hx hb dX3_paid_6 (by decide) (fun c_1 => ?_) (fun c_1 => ?_)
  · -- taken
    refine lv_iconst (v := 1) hx hb dX3_paid_13 (by decide) ?_
    refine g_call1 (va_runV (As := [.int 1]) (rest := []) ⟨hx, hb, hml, hown, hts⟩ (c_X3_holds l x M 1) (cwV 1 hts gX3_paid_X3_holds rfl rfl rfl (by decide +kernel) ⟨Nat.le_of_ble_eq_true rfl, Nat.le_of_ble_eq_true rfl⟩) (g_preV hS hZ hP hV [.int 1] (id := 38) (by decide) rfl rfl) rfl rfl hl.1 rfl (lv_room (Nat.le_of_ble_eq_true rfl)) dX3_paid_14 ⟨Nat.le_of_ble_eq_true rfl, Nat.le_of_ble_eq_true rfl⟩) hV (fun H locs hP hV => ?_)
    have hM0 : OkM (up2 M 38 0 1) cn gn dn pn := hM.h0
    refine h_if_eq_b (tgt := 29) hx hb dX3_paid_17 (by decide) (fun c_2 => ?_) (fun c_2 => ?_)
    · -- taken
      refine lv_iconst (v := 0) hx hb dX3_paid_29 (by decide) ?_
      exact g_iret hx hb hr hlk hS hZ hP hV (Nat.le_of_ble_eq_true rfl) (Nat.le_of_ble_eq_true rfl) dX3_paid_30 (by exact (if_neg (fun z => absurd ((show cd01 (cbM gn g) = 1 from by simp [cd01, c_1, c_2]).symm.trans z) (by decide))).symm) (by have hcd := (show cd01 (cbM gn g) = 1 from by simp [cd01, c_1, c_2]); rw [if_neg (fun z => absurd (hcd.symm.trans z) (by decide)), hcd])
    · -- on
      exact absurd c_2 (by decide)
  · -- on
    obtain ⟨u, hu, eg⟩ := cbM_true (show gn ≤ 8 by omega) c_1
    rw [eg] at hl
    refine lv_iconst (v := 0) hx hb dX3_paid_9 (by decide) ?_
    refine lv_goto (tgt := 14) hx hb dX3_paid_10 (by decide) ?_
    refine g_call1 (va_runV (As := [.int 0]) (rest := []) ⟨hx, hb, hml, hown, hts⟩ (c_X3_holds l x M 0) (cwV 1 hts gX3_paid_X3_holds rfl rfl rfl (by decide +kernel) ⟨Nat.le_of_ble_eq_true rfl, Nat.le_of_ble_eq_true rfl⟩) (g_preV hS hZ hP hV [.int 0] (id := 38) (by decide) rfl rfl) rfl rfl hl.1 rfl (lv_room (Nat.le_of_ble_eq_true rfl)) dX3_paid_14 ⟨Nat.le_of_ble_eq_true rfl, Nat.le_of_ble_eq_true rfl⟩) hV (fun H locs hP hV => ?_)
    have hM0 : OkM (up2 M 38 0 0) cn gn dn pn := hM.h0
    refine h_if_eq_b (tgt := 29) hx hb dX3_paid_17 (by decide) (fun c_3 => ?_) (fun c_3 => ?_)
    · -- taken
      exact absurd c_3 (by decide)
    · -- on
      refine lv_aload_n hx hb dX3_paid_20 rfl (lv_at hl 0 rfl) ?_
      refine g_get (C := RX3) (T := TX3) (N := 22) (v := .ref (xa x 53)) hx hb hts hinX3 hown hS hP (id := 38) (by decide) rfl rfl 18 (by decide) hw_f53 rfl dX3_paid_21 ?_
      refine lv_iload_n hx hb dX3_paid_24 rfl (lv_at hl 1 rfl) ?_
      refine g_iald (j := u) hx hb hS hP (id := 53) (by omega) ((fun _ => rfl) _) (by decide) rfl (by omega) dX3_paid_25 ?_
      refine lv_goto (tgt := 30) hx hb dX3_paid_26 (by decide) ?_
      exact g_iret hx hb hr hlk hS hZ hP hV (Nat.le_of_ble_eq_true rfl) (Nat.le_of_ble_eq_true rfl) dX3_paid_30 (by refine Eq.trans ?_ (if_pos (show cd01 (cbM gn g) = 0 from by subst eg; simp [cd01, c_1, c_3, tn_nI (show u < 2 ^ 31 by omega)])).symm; subst eg; simp only [tn_nI (show u < 2 ^ 31 by omega)]; rfl) (by refine Eq.trans ?_ (if_pos (show cd01 (cbM gn g) = 0 from by subst eg; simp [cd01, c_1, c_3, tn_nI (show u < 2 ^ 31 by omega)])).symm; subst eg; rfl)
