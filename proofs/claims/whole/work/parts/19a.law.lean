/-! The law, call by call. -/
theorem lcmp_s {a b : Int32} (h : b = a) : lg_cmp a.toInt64 b.toInt64 = 0 := by
  subst h
  simp [lg_cmp]
theorem lcmp_z {a v : Int32} {w : Int64} (h : a = v) (hw : w = v.toInt64) : lg_cmp a.toInt64 w = 0 := by
  subst h; subst hw
  simp [lg_cmp]
theorem g_sld {p : Program} {l : Launch} {e : Env} {R : Room} {s : State} {m : MethodId} {args : Array Value} {below : List Frame} {meth : Method} {c : Code} {H : Heap} {locs : List Loc} {cells slots : Nat} {Q : State → Prop} {cc : ByteArray} {pc : Nat} {ls : Array Slot} {rest : List Value} {x : Cx} {j : Nat} (hx : p.tables.exec = Jvm.exec) (hb : c.code = cc) (hS : GS x s) (hZ : GZ x s s.heap) (hV : va_S (gF x) s.heap H locs) (hL : xL x ≤ 3584) (hj : j < xL x) (hdg : decode cc pc = .ok (.iaload, 1))
    (kk : W p l e R s m args below meth c H locs cells slots Q (F0 m (pc + 1) ls (.int (xX x j) :: rest))) : W p l e R s m args below meth c H locs cells slots Q (F0 m pc ls (.int (nI j) :: .ref (xb x) :: rest)) := by
  refine va_sld hx hb hZ.2.2.1 (Nat.lt_of_lt_of_le hS.2.2.2.1 hZ.2.2.2) (A := gF x) (Nat.not_le.mpr hS.2.2.2.1) hV (vp_in_nI hj (by omega)) hdg ?_
  rw [nI_clamp (by omega)]
  exact kk
set_option maxHeartbeats 4000000 in
set_option maxRecDepth 100000 in
theorem law_draft {p : Program} {e : Env} {s : State} {m : MethodId} {below : List Frame} {meth : Method} {c : Code} {l : Launch} (hlf : l.stackTraces = false) {x : Cx} (hL : xL x ≤ 3584) (hx : p.tables.exec = Jvm.exec) (hb : c.code = cL_law) (hml : c.maxLocals = 7) (hown : s.vm.findClass RL = some m.cls) (hts : ∀ w ∈ wsL_law, w.before #[Value.ref (xb x)] s = true) (hS : GS x s) (hZ : GZ x s s.heap) {M : Nat → Nat → Int32} {cn gn dn k : Nat} {pn : Nat → Nat} (hI : Inv M cn gn dn pn) (hk : 7 * k + 7 ≤ xL x) (hk2 : k ≤ 512)
    (NX : ∀ (M1 : Nat → Nat → Int32) (cn1 gn1 dn1 : Nat) (pn1 : Nat → Nat), Inv M1 cn1 gn1 dn1 pn1 → ∀ (H : Heap) (locs : List Loc), va_P (xD x) vwCl (wAll x M1) H → va_S (gF x) s.heap H locs → ∀ ls : Array Slot, lv_has ls 7 [(4, .int (nI (7 * k))), (0, .ref (xb x)), (1, .ref (xa x 0)), (2, .ref (xa x 38)), (3, .ref (xa x 56))] → W p l e room_1 s m #[Value.ref (xb x)] below meth c H locs (57 + 5 * k + 5) (1400 + 30 * k + 30) (lw_Z below #[Value.ref (xb x)] s) (F0 m 1416 ls []))
    (H : Heap) (locs : List Loc) (hP : va_P (xD x) vwCl (wAll x M) H) (hV : va_S (gF x) s.heap H locs) (ls : Array Slot) (hl : lv_has ls 7 [(4, .int (nI (7 * k))), (0, .ref (xb x)), (1, .ref (xa x 0)), (2, .ref (xa x 38)), (3, .ref (xa x 56))]) : W p l e room_1 s m #[Value.ref (xb x)] below meth c H locs (57 + 5 * k) (1400 + 30 * k) (lw_Z below #[Value.ref (xb x)] s) (F0 m 132 ls []) := by
    have hst := st_draft hI (xX x (7 * k + 1)) (xX x (7 * k + 2))
    obtain ⟨hOM, hK1, hK2, cn1, gn1, dn1, pn1, hI1⟩ := hst
    have J_197 : ∀ (H : Heap) (locs : List Loc), va_P (xD x) vwCl (wAll x (mM_draft (oM_draft M cn gn dn pn (xX x (7 * k + 1)) (xX x (7 * k + 2))) cn gn dn pn (xX x (7 * k + 1)) (xX x (7 * k + 2)))) H → va_S (gF x) s.heap H locs → ∀ ls : Array Slot, lv_has ls 7 [(4, .int (nI (7 * k))), (0, .ref (xb x)), (1, .ref (xa x 0)), (2, .ref (xa x 38)), (3, .ref (xa x 56))] → W p l e room_1 s m #[Value.ref (xb x)] below meth c H locs (57 + 5 * k + 2) (1400 + 30 * k + 12) (lw_Z below #[Value.ref (xb x)] s) (F0 m 197 ls []) := by
      intro H locs hP hV ls hl
      refine lv_goto (tgt := 1416) hx hb dL_law_197 (by decide) ?_
      exact W.widen (by omega) (by omega) (NX _ cn1 gn1 dn1 pn1 hI1 H locs hP hV ls hl)
    refine lv_aload_n hx hb dL_law_132 rfl (lv_at hl 2 rfl) ?_
    refine lv_aload_n hx hb dL_law_133 rfl (lv_at hl 1 rfl) ?_
    refine lv_iload hx hb dL_law_134 (lv_at hl 0 rfl) ?_
    refine lv_iconst (v := 1) hx hb dL_law_136 (by decide) ?_
    refine h_iadd (v := nI (7 * k + 1)) hx hb dL_law_137 (nI_add (7 * k) 1) ?_
    refine g_sld (j := 7 * k + 1) hx hb hS hZ hV hL (by omega) dL_law_138 ?_
    refine lv_aload_n hx hb dL_law_139 rfl (lv_at hl 1 rfl) ?_
    refine lv_iload hx hb dL_law_140 (lv_at hl 0 rfl) ?_
    refine lv_iconst (v := 2) hx hb dL_law_142 (by decide) ?_
    refine h_iadd (v := nI (7 * k + 2)) hx hb dL_law_143 (nI_add (7 * k) 2) ?_
    refine g_sld (j := 7 * k + 2) hx hb hS hZ hV hL (by omega) dL_law_144 ?_
    refine lv_aload_n hx hb dL_law_145 rfl (lv_at hl 4 rfl) ?_
    refine g_call1 (vx_runSW (As := [.ref (xa x 0), .int (xX x (7 * k + 1)), .int (xX x (7 * k + 2)), .ref (xa x 56)]) (rest := []) ⟨hx, hb, hml, hown, hts⟩ (k_L_draft l hlf x M cn gn dn pn (xX x (7 * k + 1)) (xX x (7 * k + 2)) hI.o) (vx_cwSW 4 hts gL_law_L_draft rfl rfl rfl (by decide +kernel) ⟨Nat.le_of_ble_eq_true rfl, Nat.le_of_ble_eq_true rfl⟩) (g_preS hS hZ hP hV [.ref (xa x 0), .int (xX x (7 * k + 1)), .int (xX x (7 * k + 2)), .ref (xa x 56)]) rfl rfl hl.1 rfl (lv_room (Nat.le_of_ble_eq_true rfl)) dL_law_146 ⟨by show 57 + 5 * k + 2 ≤ 634721; omega, by show 1400 + 30 * k + 12 ≤ 7191940; omega⟩) hV (fun H locs hP hV => ?_)
    refine lv_istore (lv' := [(5, .int (oK_draft M cn gn dn pn (xX x (7 * k + 1)) (xX x (7 * k + 2)))), (4, .int (nI (7 * k))), (0, .ref (xb x)), (1, .ref (xa x 0)), (2, .ref (xa x 38)), (3, .ref (xa x 56))]) hx hb dL_law_149 hl (by decide) rfl (fun ls hl => ?_)
    refine lv_aload_n hx hb dL_law_151 rfl (lv_at hl 4 rfl) ?_
    refine lv_aload_n hx hb dL_law_152 rfl (lv_at hl 2 rfl) ?_
    refine lv_iload hx hb dL_law_153 (lv_at hl 1 rfl) ?_
    refine lv_iconst (v := 1) hx hb dL_law_155 (by decide) ?_
    refine h_iadd (v := nI (7 * k + 1)) hx hb dL_law_156 (nI_add (7 * k) 1) ?_
    refine g_sld (j := 7 * k + 1) hx hb hS hZ hV hL (by omega) dL_law_157 ?_
    refine lv_aload_n hx hb dL_law_158 rfl (lv_at hl 2 rfl) ?_
    refine lv_iload hx hb dL_law_159 (lv_at hl 1 rfl) ?_
    refine lv_iconst (v := 2) hx hb dL_law_161 (by decide) ?_
    refine h_iadd (v := nI (7 * k + 2)) hx hb dL_law_162 (nI_add (7 * k) 2) ?_
    refine g_sld (j := 7 * k + 2) hx hb hS hZ hV hL (by omega) dL_law_163 ?_
    refine g_call1 (va_runV (As := [.int (xX x (7 * k + 1)), .int (xX x (7 * k + 2))]) (rest := []) ⟨hx, hb, hml, hown, hts⟩ (k_X3_draft l x (oM_draft M cn gn dn pn (xX x (7 * k + 1)) (xX x (7 * k + 2))) cn gn dn pn (xX x (7 * k + 1)) (xX x (7 * k + 2)) hOM) (cwV 2 hts gL_law_X3_draft rfl rfl rfl (by decide +kernel) ⟨Nat.le_of_ble_eq_true rfl, Nat.le_of_ble_eq_true rfl⟩) (g_preV hS hZ hP hV [.int (xX x (7 * k + 1)), .int (xX x (7 * k + 2))] (id := 38) (by decide) rfl rfl) rfl rfl hl.1 rfl (lv_room (Nat.le_of_ble_eq_true rfl)) dL_law_164 ⟨by show 57 + 5 * k + 2 ≤ 634721; omega, by show 1400 + 30 * k + 12 ≤ 7191940; omega⟩) hV (fun H locs hP hV => ?_)
    refine lv_istore (lv' := [(6, .int (mV_draft (oM_draft M cn gn dn pn (xX x (7 * k + 1)) (xX x (7 * k + 2))) cn gn dn pn (xX x (7 * k + 1)) (xX x (7 * k + 2)))), (5, .int (oK_draft M cn gn dn pn (xX x (7 * k + 1)) (xX x (7 * k + 2)))), (4, .int (nI (7 * k))), (0, .ref (xb x)), (1, .ref (xa x 0)), (2, .ref (xa x 38)), (3, .ref (xa x 56))]) hx hb dL_law_167 hl (by decide) rfl (fun ls hl => ?_)
    refine lv_aload_n hx hb dL_law_169 rfl (lv_at hl 5 rfl) ?_
    refine g_call1 (va_runV (As := []) (rest := []) ⟨hx, hb, hml, hown, hts⟩ (c_X3_thrown l x (mM_draft (oM_draft M cn gn dn pn (xX x (7 * k + 1)) (xX x (7 * k + 2))) cn gn dn pn (xX x (7 * k + 1)) (xX x (7 * k + 2)))) (cwV 0 hts gL_law_X3_thrown rfl rfl rfl (by decide +kernel) ⟨Nat.le_of_ble_eq_true rfl, Nat.le_of_ble_eq_true rfl⟩) (g_preV hS hZ hP hV [] (id := 38) (by decide) rfl rfl) rfl rfl hl.1 rfl (lv_room (Nat.le_of_ble_eq_true rfl)) dL_law_170 ⟨by show 57 + 5 * k + 2 ≤ 634721; omega, by show 1400 + 30 * k + 12 ≤ 7191940; omega⟩) hV (fun H locs hP hV => ?_)
    refine lv_iload hx hb dL_law_173 (lv_at hl 1 rfl) ?_
    refine lv_icmp_eq (tgt := 180) hx hb dL_law_175 (by decide) (fun c_1 => ?_) (fun c_1 => absurd hK1 c_1)
    refine lv_iload hx hb dL_law_180 (lv_at hl 1 rfl) ?_
    refine lv_if_ne (tgt := 197) hx hb dL_law_182 (by decide) (fun c_2 => ?_) (fun c_2 => ?_)
    · exact J_197 H locs hP hV ls (lv_sub hl [2, 3, 4, 5, 6] rfl)
    refine lv_aload_n hx hb dL_law_185 rfl (lv_at hl 6 rfl) ?_
    refine lv_iconst (v := 0) hx hb dL_law_186 (by decide) ?_
    refine g_lald hx hb hS hP dL_law_187 ?_
    refine lv_iload hx hb dL_law_188 (lv_at hl 0 rfl) ?_
    refine lv_i2l (v := (mV_draft (oM_draft M cn gn dn pn (xX x (7 * k + 1)) (xX x (7 * k + 2))) cn gn dn pn (xX x (7 * k + 1)) (xX x (7 * k + 2))).toInt64) hx hb dL_law_190 rfl ?_
    refine W.lcmp hx hb dL_law_191 ?_
    refine lv_if_eq (tgt := 197) hx hb dL_law_192 (by decide) (fun c_3 => ?_) (fun c_3 => absurd (lcmp_s (hK2 c_2)) c_3)
    exact J_197 H locs hP hV ls (lv_sub hl [2, 3, 4, 5, 6] rfl)
set_option maxHeartbeats 4000000 in
set_option maxRecDepth 100000 in
theorem law_lay {p : Program} {e : Env} {s : State} {m : MethodId} {below : List Frame} {meth : Method} {c : Code} {l : Launch} (hlf : l.stackTraces = false) {x : Cx} (hL : xL x ≤ 3584) (hx : p.tables.exec = Jvm.exec) (hb : c.code = cL_law) (hml : c.maxLocals = 7) (hown : s.vm.findClass RL = some m.cls) (hts : ∀ w ∈ wsL_law, w.before #[Value.ref (xb x)] s = true) (hS : GS x s) (hZ : GZ x s s.heap) {M : Nat → Nat → Int32} {cn gn dn k : Nat} {pn : Nat → Nat} (hI : Inv M cn gn dn pn) (hk : 7 * k + 7 ≤ xL x) (hk2 : k ≤ 512)
    (NX : ∀ (M1 : Nat → Nat → Int32) (cn1 gn1 dn1 : Nat) (pn1 : Nat → Nat), Inv M1 cn1 gn1 dn1 pn1 → ∀ (H : Heap) (locs : List Loc), va_P (xD x) vwCl (wAll x M1) H → va_S (gF x) s.heap H locs → ∀ ls : Array Slot, lv_has ls 7 [(4, .int (nI (7 * k))), (0, .ref (xb x)), (1, .ref (xa x 0)), (2, .ref (xa x 38)), (3, .ref (xa x 56))] → W p l e room_1 s m #[Value.ref (xb x)] below meth c H locs (57 + 5 * k + 5) (1400 + 30 * k + 30) (lw_Z below #[Value.ref (xb x)] s) (F0 m 1416 ls []))
    (H : Heap) (locs : List Loc) (hP : va_P (xD x) vwCl (wAll x M) H) (hV : va_S (gF x) s.heap H locs) (ls : Array Slot) (hl : lv_has ls 7 [(4, .int (nI (7 * k))), (0, .ref (xb x)), (1, .ref (xa x 0)), (2, .ref (xa x 38)), (3, .ref (xa x 56))]) : W p l e room_1 s m #[Value.ref (xb x)] below meth c H locs (57 + 5 * k) (1400 + 30 * k) (lw_Z below #[Value.ref (xb x)] s) (F0 m 200 ls []) := by
    have hst := st_lay hI 
    obtain ⟨hOM, hK1, hK2, cn1, gn1, dn1, pn1, hI1⟩ := hst
    have J_241 : ∀ (H : Heap) (locs : List Loc), va_P (xD x) vwCl (wAll x (mM_lay (oM_lay M cn gn dn pn ) cn gn dn pn )) H → va_S (gF x) s.heap H locs → ∀ ls : Array Slot, lv_has ls 7 [(4, .int (nI (7 * k))), (0, .ref (xb x)), (1, .ref (xa x 0)), (2, .ref (xa x 38)), (3, .ref (xa x 56))] → W p l e room_1 s m #[Value.ref (xb x)] below meth c H locs (57 + 5 * k + 1) (1400 + 30 * k + 6) (lw_Z below #[Value.ref (xb x)] s) (F0 m 241 ls []) := by
      intro H locs hP hV ls hl
      refine lv_goto (tgt := 1416) hx hb dL_law_241 (by decide) ?_
      exact W.widen (by omega) (by omega) (NX _ cn1 gn1 dn1 pn1 hI1 H locs hP hV ls hl)
    refine lv_aload_n hx hb dL_law_200 rfl (lv_at hl 2 rfl) ?_
    refine lv_aload_n hx hb dL_law_201 rfl (lv_at hl 4 rfl) ?_
    refine g_call1 (vx_runSW (As := [.ref (xa x 0), .ref (xa x 56)]) (rest := []) ⟨hx, hb, hml, hown, hts⟩ (k_L_lay l hlf x M cn gn dn pn  hI.o) (vx_cwSW 2 hts gL_law_L_lay rfl rfl rfl (by decide +kernel) ⟨Nat.le_of_ble_eq_true rfl, Nat.le_of_ble_eq_true rfl⟩) (g_preS hS hZ hP hV [.ref (xa x 0), .ref (xa x 56)]) rfl rfl hl.1 rfl (lv_room (Nat.le_of_ble_eq_true rfl)) dL_law_202 ⟨by show 57 + 5 * k + 1 ≤ 634721; omega, by show 1400 + 30 * k + 6 ≤ 7191940; omega⟩) hV (fun H locs hP hV => ?_)
    refine lv_istore (lv' := [(5, .int (oK_lay M cn gn dn pn )), (4, .int (nI (7 * k))), (0, .ref (xb x)), (1, .ref (xa x 0)), (2, .ref (xa x 38)), (3, .ref (xa x 56))]) hx hb dL_law_205 hl (by decide) rfl (fun ls hl => ?_)
    refine lv_aload_n hx hb dL_law_207 rfl (lv_at hl 4 rfl) ?_
    refine g_call1 (va_runV (As := []) (rest := []) ⟨hx, hb, hml, hown, hts⟩ (k_X3_lay l x (oM_lay M cn gn dn pn ) cn gn dn pn  hOM) (cwV 0 hts gL_law_X3_lay rfl rfl rfl (by decide +kernel) ⟨Nat.le_of_ble_eq_true rfl, Nat.le_of_ble_eq_true rfl⟩) (g_preV hS hZ hP hV [] (id := 38) (by decide) rfl rfl) rfl rfl hl.1 rfl (lv_room (Nat.le_of_ble_eq_true rfl)) dL_law_208 ⟨by show 57 + 5 * k + 1 ≤ 634721; omega, by show 1400 + 30 * k + 6 ≤ 7191940; omega⟩) hV (fun H locs hP hV => ?_)
    refine lv_istore (lv' := [(6, .int (mV_lay (oM_lay M cn gn dn pn ) cn gn dn pn )), (5, .int (oK_lay M cn gn dn pn )), (4, .int (nI (7 * k))), (0, .ref (xb x)), (1, .ref (xa x 0)), (2, .ref (xa x 38)), (3, .ref (xa x 56))]) hx hb dL_law_211 hl (by decide) rfl (fun ls hl => ?_)
    refine lv_aload_n hx hb dL_law_213 rfl (lv_at hl 5 rfl) ?_
    refine g_call1 (va_runV (As := []) (rest := []) ⟨hx, hb, hml, hown, hts⟩ (c_X3_thrown l x (mM_lay (oM_lay M cn gn dn pn ) cn gn dn pn )) (cwV 0 hts gL_law_X3_thrown rfl rfl rfl (by decide +kernel) ⟨Nat.le_of_ble_eq_true rfl, Nat.le_of_ble_eq_true rfl⟩) (g_preV hS hZ hP hV [] (id := 38) (by decide) rfl rfl) rfl rfl hl.1 rfl (lv_room (Nat.le_of_ble_eq_true rfl)) dL_law_214 ⟨by show 57 + 5 * k + 1 ≤ 634721; omega, by show 1400 + 30 * k + 6 ≤ 7191940; omega⟩) hV (fun H locs hP hV => ?_)
    refine lv_iload hx hb dL_law_217 (lv_at hl 1 rfl) ?_
    refine lv_icmp_eq (tgt := 224) hx hb dL_law_219 (by decide) (fun c_1 => ?_) (fun c_1 => absurd hK1 c_1)
    refine lv_iload hx hb dL_law_224 (lv_at hl 1 rfl) ?_
    refine lv_if_ne (tgt := 241) hx hb dL_law_226 (by decide) (fun c_2 => ?_) (fun c_2 => ?_)
    · exact J_241 H locs hP hV ls (lv_sub hl [2, 3, 4, 5, 6] rfl)
    refine lv_aload_n hx hb dL_law_229 rfl (lv_at hl 6 rfl) ?_
    refine lv_iconst (v := 0) hx hb dL_law_230 (by decide) ?_
    refine g_lald hx hb hS hP dL_law_231 ?_
    refine lv_iload hx hb dL_law_232 (lv_at hl 0 rfl) ?_
    refine lv_i2l (v := (mV_lay (oM_lay M cn gn dn pn ) cn gn dn pn ).toInt64) hx hb dL_law_234 rfl ?_
    refine W.lcmp hx hb dL_law_235 ?_
    refine lv_if_eq (tgt := 241) hx hb dL_law_236 (by decide) (fun c_3 => ?_) (fun c_3 => absurd (lcmp_s (hK2 c_2)) c_3)
    exact J_241 H locs hP hV ls (lv_sub hl [2, 3, 4, 5, 6] rfl)
set_option maxHeartbeats 4000000 in
set_option maxRecDepth 100000 in
theorem law_move {p : Program} {e : Env} {s : State} {m : MethodId} {below : List Frame} {meth : Method} {c : Code} {l : Launch} (hlf : l.stackTraces = false) {x : Cx} (hL : xL x ≤ 3584) (hx : p.tables.exec = Jvm.exec) (hb : c.code = cL_law) (hml : c.maxLocals = 7) (hown : s.vm.findClass RL = some m.cls) (hts : ∀ w ∈ wsL_law, w.before #[Value.ref (xb x)] s = true) (hS : GS x s) (hZ : GZ x s s.heap) {M : Nat → Nat → Int32} {cn gn dn k : Nat} {pn : Nat → Nat} (hI : Inv M cn gn dn pn) (hk : 7 * k + 7 ≤ xL x) (hk2 : k ≤ 512)
    (NX : ∀ (M1 : Nat → Nat → Int32) (cn1 gn1 dn1 : Nat) (pn1 : Nat → Nat), Inv M1 cn1 gn1 dn1 pn1 → ∀ (H : Heap) (locs : List Loc), va_P (xD x) vwCl (wAll x M1) H → va_S (gF x) s.heap H locs → ∀ ls : Array Slot, lv_has ls 7 [(4, .int (nI (7 * k))), (0, .ref (xb x)), (1, .ref (xa x 0)), (2, .ref (xa x 38)), (3, .ref (xa x 56))] → W p l e room_1 s m #[Value.ref (xb x)] below meth c H locs (57 + 5 * k + 5) (1400 + 30 * k + 30) (lw_Z below #[Value.ref (xb x)] s) (F0 m 1416 ls []))
    (H : Heap) (locs : List Loc) (hP : va_P (xD x) vwCl (wAll x M) H) (hV : va_S (gF x) s.heap H locs) (ls : Array Slot) (hl : lv_has ls 7 [(4, .int (nI (7 * k))), (0, .ref (xb x)), (1, .ref (xa x 0)), (2, .ref (xa x 38)), (3, .ref (xa x 56))]) : W p l e room_1 s m #[Value.ref (xb x)] below meth c H locs (57 + 5 * k) (1400 + 30 * k) (lw_Z below #[Value.ref (xb x)] s) (F0 m 244 ls []) := by
    have hst := st_move hI (xX x (7 * k + 1)) (xX x (7 * k + 2)) (xX x (7 * k + 3)) (xX x (7 * k + 4))
    obtain ⟨hOM, hK1, hK2, cn1, gn1, dn1, pn1, hI1⟩ := hst
    have J_333 : ∀ (H : Heap) (locs : List Loc), va_P (xD x) vwCl (wAll x (mM_move (oM_move M cn gn dn pn (xX x (7 * k + 1)) (xX x (7 * k + 2)) (xX x (7 * k + 3)) (xX x (7 * k + 4))) cn gn dn pn (xX x (7 * k + 1)) (xX x (7 * k + 2)) (xX x (7 * k + 3)) (xX x (7 * k + 4)))) H → va_S (gF x) s.heap H locs → ∀ ls : Array Slot, lv_has ls 7 [(4, .int (nI (7 * k))), (0, .ref (xb x)), (1, .ref (xa x 0)), (2, .ref (xa x 38)), (3, .ref (xa x 56))] → W p l e room_1 s m #[Value.ref (xb x)] below meth c H locs (57 + 5 * k + 4) (1400 + 30 * k + 24) (lw_Z below #[Value.ref (xb x)] s) (F0 m 333 ls []) := by
      intro H locs hP hV ls hl
      refine lv_goto (tgt := 1416) hx hb dL_law_333 (by decide) ?_
      exact W.widen (by omega) (by omega) (NX _ cn1 gn1 dn1 pn1 hI1 H locs hP hV ls hl)
    refine lv_aload_n hx hb dL_law_244 rfl (lv_at hl 2 rfl) ?_
    refine lv_aload_n hx hb dL_law_245 rfl (lv_at hl 1 rfl) ?_
    refine lv_iload hx hb dL_law_246 (lv_at hl 0 rfl) ?_
    refine lv_iconst (v := 1) hx hb dL_law_248 (by decide) ?_
    refine h_iadd (v := nI (7 * k + 1)) hx hb dL_law_249 (nI_add (7 * k) 1) ?_
    refine g_sld (j := 7 * k + 1) hx hb hS hZ hV hL (by omega) dL_law_250 ?_
    refine lv_aload_n hx hb dL_law_251 rfl (lv_at hl 1 rfl) ?_
    refine lv_iload hx hb dL_law_252 (lv_at hl 0 rfl) ?_
    refine lv_iconst (v := 2) hx hb dL_law_254 (by decide) ?_
    refine h_iadd (v := nI (7 * k + 2)) hx hb dL_law_255 (nI_add (7 * k) 2) ?_
    refine g_sld (j := 7 * k + 2) hx hb hS hZ hV hL (by omega) dL_law_256 ?_
    refine lv_aload_n hx hb dL_law_257 rfl (lv_at hl 1 rfl) ?_
    refine lv_iload hx hb dL_law_258 (lv_at hl 0 rfl) ?_
    refine lv_iconst (v := 3) hx hb dL_law_260 (by decide) ?_
    refine h_iadd (v := nI (7 * k + 3)) hx hb dL_law_261 (nI_add (7 * k) 3) ?_
    refine g_sld (j := 7 * k + 3) hx hb hS hZ hV hL (by omega) dL_law_262 ?_
    refine lv_aload_n hx hb dL_law_263 rfl (lv_at hl 1 rfl) ?_
    refine lv_iload hx hb dL_law_264 (lv_at hl 0 rfl) ?_
    refine lv_iconst (v := 4) hx hb dL_law_266 (by decide) ?_
    refine h_iadd (v := nI (7 * k + 4)) hx hb dL_law_267 (nI_add (7 * k) 4) ?_
    refine g_sld (j := 7 * k + 4) hx hb hS hZ hV hL (by omega) dL_law_268 ?_
    refine lv_aload_n hx hb dL_law_269 rfl (lv_at hl 4 rfl) ?_
    refine g_call1 (vx_runSW (As := [.ref (xa x 0), .int (xX x (7 * k + 1)), .int (xX x (7 * k + 2)), .int (xX x (7 * k + 3)), .int (xX x (7 * k + 4)), .ref (xa x 56)]) (rest := []) ⟨hx, hb, hml, hown, hts⟩ (k_L_move l hlf x M cn gn dn pn (xX x (7 * k + 1)) (xX x (7 * k + 2)) (xX x (7 * k + 3)) (xX x (7 * k + 4)) hI.o) (vx_cwSW 6 hts gL_law_L_move rfl rfl rfl (by decide +kernel) ⟨Nat.le_of_ble_eq_true rfl, Nat.le_of_ble_eq_true rfl⟩) (g_preS hS hZ hP hV [.ref (xa x 0), .int (xX x (7 * k + 1)), .int (xX x (7 * k + 2)), .int (xX x (7 * k + 3)), .int (xX x (7 * k + 4)), .ref (xa x 56)]) rfl rfl hl.1 rfl (lv_room (Nat.le_of_ble_eq_true rfl)) dL_law_270 ⟨by show 57 + 5 * k + 4 ≤ 634721; omega, by show 1400 + 30 * k + 24 ≤ 7191940; omega⟩) hV (fun H locs hP hV => ?_)
    refine lv_istore (lv' := [(5, .int (oK_move M cn gn dn pn (xX x (7 * k + 1)) (xX x (7 * k + 2)) (xX x (7 * k + 3)) (xX x (7 * k + 4)))), (4, .int (nI (7 * k))), (0, .ref (xb x)), (1, .ref (xa x 0)), (2, .ref (xa x 38)), (3, .ref (xa x 56))]) hx hb dL_law_273 hl (by decide) rfl (fun ls hl => ?_)
    refine lv_aload_n hx hb dL_law_275 rfl (lv_at hl 4 rfl) ?_
    refine lv_aload_n hx hb dL_law_276 rfl (lv_at hl 2 rfl) ?_
    refine lv_iload hx hb dL_law_277 (lv_at hl 1 rfl) ?_
    refine lv_iconst (v := 1) hx hb dL_law_279 (by decide) ?_
    refine h_iadd (v := nI (7 * k + 1)) hx hb dL_law_280 (nI_add (7 * k) 1) ?_
    refine g_sld (j := 7 * k + 1) hx hb hS hZ hV hL (by omega) dL_law_281 ?_
    refine lv_aload_n hx hb dL_law_282 rfl (lv_at hl 2 rfl) ?_
    refine lv_iload hx hb dL_law_283 (lv_at hl 1 rfl) ?_
    refine lv_iconst (v := 2) hx hb dL_law_285 (by decide) ?_
    refine h_iadd (v := nI (7 * k + 2)) hx hb dL_law_286 (nI_add (7 * k) 2) ?_
    refine g_sld (j := 7 * k + 2) hx hb hS hZ hV hL (by omega) dL_law_287 ?_
    refine lv_aload_n hx hb dL_law_288 rfl (lv_at hl 2 rfl) ?_
    refine lv_iload hx hb dL_law_289 (lv_at hl 1 rfl) ?_
    refine lv_iconst (v := 3) hx hb dL_law_291 (by decide) ?_
    refine h_iadd (v := nI (7 * k + 3)) hx hb dL_law_292 (nI_add (7 * k) 3) ?_
    refine g_sld (j := 7 * k + 3) hx hb hS hZ hV hL (by omega) dL_law_293 ?_
    refine lv_aload_n hx hb dL_law_294 rfl (lv_at hl 2 rfl) ?_
    refine lv_iload hx hb dL_law_295 (lv_at hl 1 rfl) ?_
    refine lv_iconst (v := 4) hx hb dL_law_297 (by decide) ?_
    refine h_iadd (v := nI (7 * k + 4)) hx hb dL_law_298 (nI_add (7 * k) 4) ?_
    refine g_sld (j := 7 * k + 4) hx hb hS hZ hV hL (by omega) dL_law_299 ?_
    refine g_call1 (va_runV (As := [.int (xX x (7 * k + 1)), .int (xX x (7 * k + 2)), .int (xX x (7 * k + 3)), .int (xX x (7 * k + 4))]) (rest := []) ⟨hx, hb, hml, hown, hts⟩ (k_X3_move l x (oM_move M cn gn dn pn (xX x (7 * k + 1)) (xX x (7 * k + 2)) (xX x (7 * k + 3)) (xX x (7 * k + 4))) cn gn dn pn (xX x (7 * k + 1)) (xX x (7 * k + 2)) (xX x (7 * k + 3)) (xX x (7 * k + 4)) hOM) (cwV 4 hts gL_law_X3_move rfl rfl rfl (by decide +kernel) ⟨Nat.le_of_ble_eq_true rfl, Nat.le_of_ble_eq_true rfl⟩) (g_preV hS hZ hP hV [.int (xX x (7 * k + 1)), .int (xX x (7 * k + 2)), .int (xX x (7 * k + 3)), .int (xX x (7 * k + 4))] (id := 38) (by decide) rfl rfl) rfl rfl hl.1 rfl (lv_room (Nat.le_of_ble_eq_true rfl)) dL_law_300 ⟨by show 57 + 5 * k + 4 ≤ 634721; omega, by show 1400 + 30 * k + 24 ≤ 7191940; omega⟩) hV (fun H locs hP hV => ?_)
    refine lv_istore (lv' := [(6, .int (mV_move (oM_move M cn gn dn pn (xX x (7 * k + 1)) (xX x (7 * k + 2)) (xX x (7 * k + 3)) (xX x (7 * k + 4))) cn gn dn pn (xX x (7 * k + 1)) (xX x (7 * k + 2)) (xX x (7 * k + 3)) (xX x (7 * k + 4)))), (5, .int (oK_move M cn gn dn pn (xX x (7 * k + 1)) (xX x (7 * k + 2)) (xX x (7 * k + 3)) (xX x (7 * k + 4)))), (4, .int (nI (7 * k))), (0, .ref (xb x)), (1, .ref (xa x 0)), (2, .ref (xa x 38)), (3, .ref (xa x 56))]) hx hb dL_law_303 hl (by decide) rfl (fun ls hl => ?_)
    refine lv_aload_n hx hb dL_law_305 rfl (lv_at hl 5 rfl) ?_
    refine g_call1 (va_runV (As := []) (rest := []) ⟨hx, hb, hml, hown, hts⟩ (c_X3_thrown l x (mM_move (oM_move M cn gn dn pn (xX x (7 * k + 1)) (xX x (7 * k + 2)) (xX x (7 * k + 3)) (xX x (7 * k + 4))) cn gn dn pn (xX x (7 * k + 1)) (xX x (7 * k + 2)) (xX x (7 * k + 3)) (xX x (7 * k + 4)))) (cwV 0 hts gL_law_X3_thrown rfl rfl rfl (by decide +kernel) ⟨Nat.le_of_ble_eq_true rfl, Nat.le_of_ble_eq_true rfl⟩) (g_preV hS hZ hP hV [] (id := 38) (by decide) rfl rfl) rfl rfl hl.1 rfl (lv_room (Nat.le_of_ble_eq_true rfl)) dL_law_306 ⟨by show 57 + 5 * k + 4 ≤ 634721; omega, by show 1400 + 30 * k + 24 ≤ 7191940; omega⟩) hV (fun H locs hP hV => ?_)
    refine lv_iload hx hb dL_law_309 (lv_at hl 1 rfl) ?_
    refine lv_icmp_eq (tgt := 316) hx hb dL_law_311 (by decide) (fun c_1 => ?_) (fun c_1 => absurd hK1 c_1)
    refine lv_iload hx hb dL_law_316 (lv_at hl 1 rfl) ?_
    refine lv_if_ne (tgt := 333) hx hb dL_law_318 (by decide) (fun c_2 => ?_) (fun c_2 => ?_)
    · exact J_333 H locs hP hV ls (lv_sub hl [2, 3, 4, 5, 6] rfl)
    refine lv_aload_n hx hb dL_law_321 rfl (lv_at hl 6 rfl) ?_
    refine lv_iconst (v := 0) hx hb dL_law_322 (by decide) ?_
    refine g_lald hx hb hS hP dL_law_323 ?_
    refine lv_iload hx hb dL_law_324 (lv_at hl 0 rfl) ?_
    refine lv_i2l (v := (mV_move (oM_move M cn gn dn pn (xX x (7 * k + 1)) (xX x (7 * k + 2)) (xX x (7 * k + 3)) (xX x (7 * k + 4))) cn gn dn pn (xX x (7 * k + 1)) (xX x (7 * k + 2)) (xX x (7 * k + 3)) (xX x (7 * k + 4))).toInt64) hx hb dL_law_326 rfl ?_
    refine W.lcmp hx hb dL_law_327 ?_
    refine lv_if_eq (tgt := 333) hx hb dL_law_328 (by decide) (fun c_3 => ?_) (fun c_3 => absurd (lcmp_s (hK2 c_2)) c_3)
    exact J_333 H locs hP hV ls (lv_sub hl [2, 3, 4, 5, 6] rfl)
set_option maxHeartbeats 4000000 in
set_option maxRecDepth 100000 in
theorem law_cables {p : Program} {e : Env} {s : State} {m : MethodId} {below : List Frame} {meth : Method} {c : Code} {l : Launch} (hlf : l.stackTraces = false) {x : Cx} (hL : xL x ≤ 3584) (hx : p.tables.exec = Jvm.exec) (hb : c.code = cL_law) (hml : c.maxLocals = 7) (hown : s.vm.findClass RL = some m.cls) (hts : ∀ w ∈ wsL_law, w.before #[Value.ref (xb x)] s = true) (hS : GS x s) (hZ : GZ x s s.heap) {M : Nat → Nat → Int32} {cn gn dn k : Nat} {pn : Nat → Nat} (hI : Inv M cn gn dn pn) (hk : 7 * k + 7 ≤ xL x) (hk2 : k ≤ 512)
    (NX : ∀ (M1 : Nat → Nat → Int32) (cn1 gn1 dn1 : Nat) (pn1 : Nat → Nat), Inv M1 cn1 gn1 dn1 pn1 → ∀ (H : Heap) (locs : List Loc), va_P (xD x) vwCl (wAll x M1) H → va_S (gF x) s.heap H locs → ∀ ls : Array Slot, lv_has ls 7 [(4, .int (nI (7 * k))), (0, .ref (xb x)), (1, .ref (xa x 0)), (2, .ref (xa x 38)), (3, .ref (xa x 56))] → W p l e room_1 s m #[Value.ref (xb x)] below meth c H locs (57 + 5 * k + 5) (1400 + 30 * k + 30) (lw_Z below #[Value.ref (xb x)] s) (F0 m 1416 ls []))
    (H : Heap) (locs : List Loc) (hP : va_P (xD x) vwCl (wAll x M) H) (hV : va_S (gF x) s.heap H locs) (ls : Array Slot) (hl : lv_has ls 7 [(4, .int (nI (7 * k))), (0, .ref (xb x)), (1, .ref (xa x 0)), (2, .ref (xa x 38)), (3, .ref (xa x 56))]) : W p l e room_1 s m #[Value.ref (xb x)] below meth c H locs (57 + 5 * k) (1400 + 30 * k) (lw_Z below #[Value.ref (xb x)] s) (F0 m 336 ls []) := by
    have hst := st_cables hI 
    obtain ⟨hK1, hI1⟩ := hst
    refine lv_aload_n hx hb dL_law_336 rfl (lv_at hl 2 rfl) ?_
    refine g_call1 (va_runV (As := []) (rest := []) ⟨hx, hb, hml, hown, hts⟩ (c_X2_cables l x M cn gn dn pn hI.o) (cwV 0 hts gL_law_X2_cables rfl rfl rfl (by decide +kernel) ⟨Nat.le_of_ble_eq_true rfl, Nat.le_of_ble_eq_true rfl⟩) (g_preV hS hZ hP hV [] (id := 0) (by decide) rfl rfl) rfl rfl hl.1 rfl (lv_room (Nat.le_of_ble_eq_true rfl)) dL_law_337 ⟨by show 57 + 5 * k ≤ 634721; omega, by show 1400 + 30 * k ≤ 7191940; omega⟩) hV (fun H locs hP hV => ?_)
    refine lv_aload_n hx hb dL_law_340 rfl (lv_at hl 3 rfl) ?_
    refine g_call1 (va_runV (As := []) (rest := [.int (nI cn)]) ⟨hx, hb, hml, hown, hts⟩ (k_X3_cables l x (M) cn gn dn pn  hI.m) (cwV 0 hts gL_law_X3_cables rfl rfl rfl (by decide +kernel) ⟨Nat.le_of_ble_eq_true rfl, Nat.le_of_ble_eq_true rfl⟩) (g_preV hS hZ hP hV [] (id := 38) (by decide) rfl rfl) rfl rfl hl.1 rfl (lv_room (Nat.le_of_ble_eq_true rfl)) dL_law_341 ⟨by show 57 + 5 * k + 0 ≤ 634721; omega, by show 1400 + 30 * k + 0 ≤ 7191940; omega⟩) hV (fun H locs hP hV => ?_)
    refine lv_icmp_eq (tgt := 1416) hx hb dL_law_344 (by decide) (fun c_1 => ?_) (fun c_1 => absurd hK1 c_1)
    exact W.widen (by omega) (by omega) (NX (mM_cables (M) cn gn dn pn ) cn gn dn pn hI1 H locs hP hV ls hl)
set_option maxHeartbeats 4000000 in
set_option maxRecDepth 100000 in
theorem law_point {p : Program} {e : Env} {s : State} {m : MethodId} {below : List Frame} {meth : Method} {c : Code} {l : Launch} (hlf : l.stackTraces = false) {x : Cx} (hL : xL x ≤ 3584) (hx : p.tables.exec = Jvm.exec) (hb : c.code = cL_law) (hml : c.maxLocals = 7) (hown : s.vm.findClass RL = some m.cls) (hts : ∀ w ∈ wsL_law, w.before #[Value.ref (xb x)] s = true) (hS : GS x s) (hZ : GZ x s s.heap) {M : Nat → Nat → Int32} {cn gn dn k : Nat} {pn : Nat → Nat} (hI : Inv M cn gn dn pn) (hk : 7 * k + 7 ≤ xL x) (hk2 : k ≤ 512)
    (NX : ∀ (M1 : Nat → Nat → Int32) (cn1 gn1 dn1 : Nat) (pn1 : Nat → Nat), Inv M1 cn1 gn1 dn1 pn1 → ∀ (H : Heap) (locs : List Loc), va_P (xD x) vwCl (wAll x M1) H → va_S (gF x) s.heap H locs → ∀ ls : Array Slot, lv_has ls 7 [(4, .int (nI (7 * k))), (0, .ref (xb x)), (1, .ref (xa x 0)), (2, .ref (xa x 38)), (3, .ref (xa x 56))] → W p l e room_1 s m #[Value.ref (xb x)] below meth c H locs (57 + 5 * k + 5) (1400 + 30 * k + 30) (lw_Z below #[Value.ref (xb x)] s) (F0 m 1416 ls []))
    (H : Heap) (locs : List Loc) (hP : va_P (xD x) vwCl (wAll x M) H) (hV : va_S (gF x) s.heap H locs) (ls : Array Slot) (hl : lv_has ls 7 [(4, .int (nI (7 * k))), (0, .ref (xb x)), (1, .ref (xa x 0)), (2, .ref (xa x 38)), (3, .ref (xa x 56))]) : W p l e room_1 s m #[Value.ref (xb x)] below meth c H locs (57 + 5 * k) (1400 + 30 * k) (lw_Z below #[Value.ref (xb x)] s) (F0 m 349 ls []) := by
    have hst := st_point hI (xX x (7 * k + 1)) (xX x (7 * k + 2))
    obtain ⟨hOM, hK1, hK2, cn1, gn1, dn1, pn1, hI1⟩ := hst
    have J_414 : ∀ (H : Heap) (locs : List Loc), va_P (xD x) vwCl (wAll x (mM_point (oM_point M cn gn dn pn (xX x (7 * k + 1)) (xX x (7 * k + 2))) cn gn dn pn (xX x (7 * k + 1)) (xX x (7 * k + 2)))) H → va_S (gF x) s.heap H locs → ∀ ls : Array Slot, lv_has ls 7 [(4, .int (nI (7 * k))), (0, .ref (xb x)), (1, .ref (xa x 0)), (2, .ref (xa x 38)), (3, .ref (xa x 56))] → W p l e room_1 s m #[Value.ref (xb x)] below meth c H locs (57 + 5 * k + 2) (1400 + 30 * k + 12) (lw_Z below #[Value.ref (xb x)] s) (F0 m 414 ls []) := by
      intro H locs hP hV ls hl
      refine lv_goto (tgt := 1416) hx hb dL_law_414 (by decide) ?_
      exact W.widen (by omega) (by omega) (NX _ cn1 gn1 dn1 pn1 hI1 H locs hP hV ls hl)
    refine lv_aload_n hx hb dL_law_349 rfl (lv_at hl 2 rfl) ?_
    refine lv_aload_n hx hb dL_law_350 rfl (lv_at hl 1 rfl) ?_
    refine lv_iload hx hb dL_law_351 (lv_at hl 0 rfl) ?_
    refine lv_iconst (v := 1) hx hb dL_law_353 (by decide) ?_
    refine h_iadd (v := nI (7 * k + 1)) hx hb dL_law_354 (nI_add (7 * k) 1) ?_
    refine g_sld (j := 7 * k + 1) hx hb hS hZ hV hL (by omega) dL_law_355 ?_
    refine lv_aload_n hx hb dL_law_356 rfl (lv_at hl 1 rfl) ?_
    refine lv_iload hx hb dL_law_357 (lv_at hl 0 rfl) ?_
    refine lv_iconst (v := 2) hx hb dL_law_359 (by decide) ?_
    refine h_iadd (v := nI (7 * k + 2)) hx hb dL_law_360 (nI_add (7 * k) 2) ?_
    refine g_sld (j := 7 * k + 2) hx hb hS hZ hV hL (by omega) dL_law_361 ?_
    refine lv_aload_n hx hb dL_law_362 rfl (lv_at hl 4 rfl) ?_
    refine g_call1 (vx_runSW (As := [.ref (xa x 0), .int (xX x (7 * k + 1)), .int (xX x (7 * k + 2)), .ref (xa x 56)]) (rest := []) ⟨hx, hb, hml, hown, hts⟩ (k_L_point l hlf x M cn gn dn pn (xX x (7 * k + 1)) (xX x (7 * k + 2)) hI.o) (vx_cwSW 4 hts gL_law_L_point rfl rfl rfl (by decide +kernel) ⟨Nat.le_of_ble_eq_true rfl, Nat.le_of_ble_eq_true rfl⟩) (g_preS hS hZ hP hV [.ref (xa x 0), .int (xX x (7 * k + 1)), .int (xX x (7 * k + 2)), .ref (xa x 56)]) rfl rfl hl.1 rfl (lv_room (Nat.le_of_ble_eq_true rfl)) dL_law_363 ⟨by show 57 + 5 * k + 2 ≤ 634721; omega, by show 1400 + 30 * k + 12 ≤ 7191940; omega⟩) hV (fun H locs hP hV => ?_)
    refine lv_istore (lv' := [(5, .int (oK_point M cn gn dn pn (xX x (7 * k + 1)) (xX x (7 * k + 2)))), (4, .int (nI (7 * k))), (0, .ref (xb x)), (1, .ref (xa x 0)), (2, .ref (xa x 38)), (3, .ref (xa x 56))]) hx hb dL_law_366 hl (by decide) rfl (fun ls hl => ?_)
    refine lv_aload_n hx hb dL_law_368 rfl (lv_at hl 4 rfl) ?_
    refine lv_aload_n hx hb dL_law_369 rfl (lv_at hl 2 rfl) ?_
    refine lv_iload hx hb dL_law_370 (lv_at hl 1 rfl) ?_
    refine lv_iconst (v := 1) hx hb dL_law_372 (by decide) ?_
    refine h_iadd (v := nI (7 * k + 1)) hx hb dL_law_373 (nI_add (7 * k) 1) ?_
    refine g_sld (j := 7 * k + 1) hx hb hS hZ hV hL (by omega) dL_law_374 ?_
    refine lv_aload_n hx hb dL_law_375 rfl (lv_at hl 2 rfl) ?_
    refine lv_iload hx hb dL_law_376 (lv_at hl 1 rfl) ?_
    refine lv_iconst (v := 2) hx hb dL_law_378 (by decide) ?_
    refine h_iadd (v := nI (7 * k + 2)) hx hb dL_law_379 (nI_add (7 * k) 2) ?_
    refine g_sld (j := 7 * k + 2) hx hb hS hZ hV hL (by omega) dL_law_380 ?_
    refine g_call1 (va_runV (As := [.int (xX x (7 * k + 1)), .int (xX x (7 * k + 2))]) (rest := []) ⟨hx, hb, hml, hown, hts⟩ (k_X3_point l x (oM_point M cn gn dn pn (xX x (7 * k + 1)) (xX x (7 * k + 2))) cn gn dn pn (xX x (7 * k + 1)) (xX x (7 * k + 2)) hOM) (cwV 2 hts gL_law_X3_point rfl rfl rfl (by decide +kernel) ⟨Nat.le_of_ble_eq_true rfl, Nat.le_of_ble_eq_true rfl⟩) (g_preV hS hZ hP hV [.int (xX x (7 * k + 1)), .int (xX x (7 * k + 2))] (id := 38) (by decide) rfl rfl) rfl rfl hl.1 rfl (lv_room (Nat.le_of_ble_eq_true rfl)) dL_law_381 ⟨by show 57 + 5 * k + 2 ≤ 634721; omega, by show 1400 + 30 * k + 12 ≤ 7191940; omega⟩) hV (fun H locs hP hV => ?_)
    refine lv_istore (lv' := [(6, .int (mV_point (oM_point M cn gn dn pn (xX x (7 * k + 1)) (xX x (7 * k + 2))) cn gn dn pn (xX x (7 * k + 1)) (xX x (7 * k + 2)))), (5, .int (oK_point M cn gn dn pn (xX x (7 * k + 1)) (xX x (7 * k + 2)))), (4, .int (nI (7 * k))), (0, .ref (xb x)), (1, .ref (xa x 0)), (2, .ref (xa x 38)), (3, .ref (xa x 56))]) hx hb dL_law_384 hl (by decide) rfl (fun ls hl => ?_)
    refine lv_aload_n hx hb dL_law_386 rfl (lv_at hl 5 rfl) ?_
    refine g_call1 (va_runV (As := []) (rest := []) ⟨hx, hb, hml, hown, hts⟩ (c_X3_thrown l x (mM_point (oM_point M cn gn dn pn (xX x (7 * k + 1)) (xX x (7 * k + 2))) cn gn dn pn (xX x (7 * k + 1)) (xX x (7 * k + 2)))) (cwV 0 hts gL_law_X3_thrown rfl rfl rfl (by decide +kernel) ⟨Nat.le_of_ble_eq_true rfl, Nat.le_of_ble_eq_true rfl⟩) (g_preV hS hZ hP hV [] (id := 38) (by decide) rfl rfl) rfl rfl hl.1 rfl (lv_room (Nat.le_of_ble_eq_true rfl)) dL_law_387 ⟨by show 57 + 5 * k + 2 ≤ 634721; omega, by show 1400 + 30 * k + 12 ≤ 7191940; omega⟩) hV (fun H locs hP hV => ?_)
    refine lv_iload hx hb dL_law_390 (lv_at hl 1 rfl) ?_
    refine lv_icmp_eq (tgt := 397) hx hb dL_law_392 (by decide) (fun c_1 => ?_) (fun c_1 => absurd hK1 c_1)
    refine lv_iload hx hb dL_law_397 (lv_at hl 1 rfl) ?_
    refine lv_if_ne (tgt := 414) hx hb dL_law_399 (by decide) (fun c_2 => ?_) (fun c_2 => ?_)
    · exact J_414 H locs hP hV ls (lv_sub hl [2, 3, 4, 5, 6] rfl)
    refine lv_aload_n hx hb dL_law_402 rfl (lv_at hl 6 rfl) ?_
    refine lv_iconst (v := 0) hx hb dL_law_403 (by decide) ?_
    refine g_lald hx hb hS hP dL_law_404 ?_
    refine lv_iload hx hb dL_law_405 (lv_at hl 0 rfl) ?_
    refine lv_i2l (v := (mV_point (oM_point M cn gn dn pn (xX x (7 * k + 1)) (xX x (7 * k + 2))) cn gn dn pn (xX x (7 * k + 1)) (xX x (7 * k + 2))).toInt64) hx hb dL_law_407 rfl ?_
    refine W.lcmp hx hb dL_law_408 ?_
    refine lv_if_eq (tgt := 414) hx hb dL_law_409 (by decide) (fun c_3 => ?_) (fun c_3 => absurd (lcmp_s (hK2 c_2)) c_3)
    exact J_414 H locs hP hV ls (lv_sub hl [2, 3, 4, 5, 6] rfl)
set_option maxHeartbeats 4000000 in
set_option maxRecDepth 100000 in
theorem law_crossings {p : Program} {e : Env} {s : State} {m : MethodId} {below : List Frame} {meth : Method} {c : Code} {l : Launch} (hlf : l.stackTraces = false) {x : Cx} (hL : xL x ≤ 3584) (hx : p.tables.exec = Jvm.exec) (hb : c.code = cL_law) (hml : c.maxLocals = 7) (hown : s.vm.findClass RL = some m.cls) (hts : ∀ w ∈ wsL_law, w.before #[Value.ref (xb x)] s = true) (hS : GS x s) (hZ : GZ x s s.heap) {M : Nat → Nat → Int32} {cn gn dn k : Nat} {pn : Nat → Nat} (hI : Inv M cn gn dn pn) (hk : 7 * k + 7 ≤ xL x) (hk2 : k ≤ 512)
    (NX : ∀ (M1 : Nat → Nat → Int32) (cn1 gn1 dn1 : Nat) (pn1 : Nat → Nat), Inv M1 cn1 gn1 dn1 pn1 → ∀ (H : Heap) (locs : List Loc), va_P (xD x) vwCl (wAll x M1) H → va_S (gF x) s.heap H locs → ∀ ls : Array Slot, lv_has ls 7 [(4, .int (nI (7 * k))), (0, .ref (xb x)), (1, .ref (xa x 0)), (2, .ref (xa x 38)), (3, .ref (xa x 56))] → W p l e room_1 s m #[Value.ref (xb x)] below meth c H locs (57 + 5 * k + 5) (1400 + 30 * k + 30) (lw_Z below #[Value.ref (xb x)] s) (F0 m 1416 ls []))
    (H : Heap) (locs : List Loc) (hP : va_P (xD x) vwCl (wAll x M) H) (hV : va_S (gF x) s.heap H locs) (ls : Array Slot) (hl : lv_has ls 7 [(4, .int (nI (7 * k))), (0, .ref (xb x)), (1, .ref (xa x 0)), (2, .ref (xa x 38)), (3, .ref (xa x 56))]) : W p l e room_1 s m #[Value.ref (xb x)] below meth c H locs (57 + 5 * k) (1400 + 30 * k) (lw_Z below #[Value.ref (xb x)] s) (F0 m 417 ls []) := by
    have hst := st_crossings hI (xX x (7 * k + 1)) (xX x (7 * k + 2))
    obtain ⟨hOM, hK1, hK2, cn1, gn1, dn1, pn1, hI1⟩ := hst
    have J_482 : ∀ (H : Heap) (locs : List Loc), va_P (xD x) vwCl (wAll x (mM_crossings (oM_crossings M cn gn dn pn (xX x (7 * k + 1)) (xX x (7 * k + 2))) cn gn dn pn (xX x (7 * k + 1)) (xX x (7 * k + 2)))) H → va_S (gF x) s.heap H locs → ∀ ls : Array Slot, lv_has ls 7 [(4, .int (nI (7 * k))), (0, .ref (xb x)), (1, .ref (xa x 0)), (2, .ref (xa x 38)), (3, .ref (xa x 56))] → W p l e room_1 s m #[Value.ref (xb x)] below meth c H locs (57 + 5 * k + 2) (1400 + 30 * k + 12) (lw_Z below #[Value.ref (xb x)] s) (F0 m 482 ls []) := by
      intro H locs hP hV ls hl
      refine lv_goto (tgt := 1416) hx hb dL_law_482 (by decide) ?_
      exact W.widen (by omega) (by omega) (NX _ cn1 gn1 dn1 pn1 hI1 H locs hP hV ls hl)
    refine lv_aload_n hx hb dL_law_417 rfl (lv_at hl 2 rfl) ?_
    refine lv_aload_n hx hb dL_law_418 rfl (lv_at hl 1 rfl) ?_
    refine lv_iload hx hb dL_law_419 (lv_at hl 0 rfl) ?_
    refine lv_iconst (v := 1) hx hb dL_law_421 (by decide) ?_
    refine h_iadd (v := nI (7 * k + 1)) hx hb dL_law_422 (nI_add (7 * k) 1) ?_
    refine g_sld (j := 7 * k + 1) hx hb hS hZ hV hL (by omega) dL_law_423 ?_
    refine lv_aload_n hx hb dL_law_424 rfl (lv_at hl 1 rfl) ?_
    refine lv_iload hx hb dL_law_425 (lv_at hl 0 rfl) ?_
    refine lv_iconst (v := 2) hx hb dL_law_427 (by decide) ?_
    refine h_iadd (v := nI (7 * k + 2)) hx hb dL_law_428 (nI_add (7 * k) 2) ?_
    refine g_sld (j := 7 * k + 2) hx hb hS hZ hV hL (by omega) dL_law_429 ?_
    refine lv_aload_n hx hb dL_law_430 rfl (lv_at hl 4 rfl) ?_
    refine g_call1 (vx_runSW (As := [.ref (xa x 0), .int (xX x (7 * k + 1)), .int (xX x (7 * k + 2)), .ref (xa x 56)]) (rest := []) ⟨hx, hb, hml, hown, hts⟩ (k_L_crossings l hlf x M cn gn dn pn (xX x (7 * k + 1)) (xX x (7 * k + 2)) hI.o) (vx_cwSW 4 hts gL_law_L_crossings rfl rfl rfl (by decide +kernel) ⟨Nat.le_of_ble_eq_true rfl, Nat.le_of_ble_eq_true rfl⟩) (g_preS hS hZ hP hV [.ref (xa x 0), .int (xX x (7 * k + 1)), .int (xX x (7 * k + 2)), .ref (xa x 56)]) rfl rfl hl.1 rfl (lv_room (Nat.le_of_ble_eq_true rfl)) dL_law_431 ⟨by show 57 + 5 * k + 2 ≤ 634721; omega, by show 1400 + 30 * k + 12 ≤ 7191940; omega⟩) hV (fun H locs hP hV => ?_)
    refine lv_istore (lv' := [(5, .int (oK_crossings M cn gn dn pn (xX x (7 * k + 1)) (xX x (7 * k + 2)))), (4, .int (nI (7 * k))), (0, .ref (xb x)), (1, .ref (xa x 0)), (2, .ref (xa x 38)), (3, .ref (xa x 56))]) hx hb dL_law_434 hl (by decide) rfl (fun ls hl => ?_)
    refine lv_aload_n hx hb dL_law_436 rfl (lv_at hl 4 rfl) ?_
    refine lv_aload_n hx hb dL_law_437 rfl (lv_at hl 2 rfl) ?_
    refine lv_iload hx hb dL_law_438 (lv_at hl 1 rfl) ?_
    refine lv_iconst (v := 1) hx hb dL_law_440 (by decide) ?_
    refine h_iadd (v := nI (7 * k + 1)) hx hb dL_law_441 (nI_add (7 * k) 1) ?_
    refine g_sld (j := 7 * k + 1) hx hb hS hZ hV hL (by omega) dL_law_442 ?_
    refine lv_aload_n hx hb dL_law_443 rfl (lv_at hl 2 rfl) ?_
    refine lv_iload hx hb dL_law_444 (lv_at hl 1 rfl) ?_
    refine lv_iconst (v := 2) hx hb dL_law_446 (by decide) ?_
    refine h_iadd (v := nI (7 * k + 2)) hx hb dL_law_447 (nI_add (7 * k) 2) ?_
    refine g_sld (j := 7 * k + 2) hx hb hS hZ hV hL (by omega) dL_law_448 ?_
    refine g_call1 (va_runV (As := [.int (xX x (7 * k + 1)), .int (xX x (7 * k + 2))]) (rest := []) ⟨hx, hb, hml, hown, hts⟩ (k_X3_crossings l x (oM_crossings M cn gn dn pn (xX x (7 * k + 1)) (xX x (7 * k + 2))) cn gn dn pn (xX x (7 * k + 1)) (xX x (7 * k + 2)) hOM) (cwV 2 hts gL_law_X3_crossings rfl rfl rfl (by decide +kernel) ⟨Nat.le_of_ble_eq_true rfl, Nat.le_of_ble_eq_true rfl⟩) (g_preV hS hZ hP hV [.int (xX x (7 * k + 1)), .int (xX x (7 * k + 2))] (id := 38) (by decide) rfl rfl) rfl rfl hl.1 rfl (lv_room (Nat.le_of_ble_eq_true rfl)) dL_law_449 ⟨by show 57 + 5 * k + 2 ≤ 634721; omega, by show 1400 + 30 * k + 12 ≤ 7191940; omega⟩) hV (fun H locs hP hV => ?_)
    refine lv_istore (lv' := [(6, .int (mV_crossings (oM_crossings M cn gn dn pn (xX x (7 * k + 1)) (xX x (7 * k + 2))) cn gn dn pn (xX x (7 * k + 1)) (xX x (7 * k + 2)))), (5, .int (oK_crossings M cn gn dn pn (xX x (7 * k + 1)) (xX x (7 * k + 2)))), (4, .int (nI (7 * k))), (0, .ref (xb x)), (1, .ref (xa x 0)), (2, .ref (xa x 38)), (3, .ref (xa x 56))]) hx hb dL_law_452 hl (by decide) rfl (fun ls hl => ?_)
    refine lv_aload_n hx hb dL_law_454 rfl (lv_at hl 5 rfl) ?_
    refine g_call1 (va_runV (As := []) (rest := []) ⟨hx, hb, hml, hown, hts⟩ (c_X3_thrown l x (mM_crossings (oM_crossings M cn gn dn pn (xX x (7 * k + 1)) (xX x (7 * k + 2))) cn gn dn pn (xX x (7 * k + 1)) (xX x (7 * k + 2)))) (cwV 0 hts gL_law_X3_thrown rfl rfl rfl (by decide +kernel) ⟨Nat.le_of_ble_eq_true rfl, Nat.le_of_ble_eq_true rfl⟩) (g_preV hS hZ hP hV [] (id := 38) (by decide) rfl rfl) rfl rfl hl.1 rfl (lv_room (Nat.le_of_ble_eq_true rfl)) dL_law_455 ⟨by show 57 + 5 * k + 2 ≤ 634721; omega, by show 1400 + 30 * k + 12 ≤ 7191940; omega⟩) hV (fun H locs hP hV => ?_)
    refine lv_iload hx hb dL_law_458 (lv_at hl 1 rfl) ?_
    refine lv_icmp_eq (tgt := 465) hx hb dL_law_460 (by decide) (fun c_1 => ?_) (fun c_1 => absurd hK1 c_1)
    refine lv_iload hx hb dL_law_465 (lv_at hl 1 rfl) ?_
    refine lv_if_ne (tgt := 482) hx hb dL_law_467 (by decide) (fun c_2 => ?_) (fun c_2 => ?_)
    · exact J_482 H locs hP hV ls (lv_sub hl [2, 3, 4, 5, 6] rfl)
    refine lv_aload_n hx hb dL_law_470 rfl (lv_at hl 6 rfl) ?_
    refine lv_iconst (v := 0) hx hb dL_law_471 (by decide) ?_
    refine g_lald hx hb hS hP dL_law_472 ?_
    refine lv_iload hx hb dL_law_473 (lv_at hl 0 rfl) ?_
    refine lv_i2l (v := (mV_crossings (oM_crossings M cn gn dn pn (xX x (7 * k + 1)) (xX x (7 * k + 2))) cn gn dn pn (xX x (7 * k + 1)) (xX x (7 * k + 2))).toInt64) hx hb dL_law_475 rfl ?_
    refine W.lcmp hx hb dL_law_476 ?_
    refine lv_if_eq (tgt := 482) hx hb dL_law_477 (by decide) (fun c_3 => ?_) (fun c_3 => absurd (lcmp_s (hK2 c_2)) c_3)
    exact J_482 H locs hP hV ls (lv_sub hl [2, 3, 4, 5, 6] rfl)
set_option maxHeartbeats 4000000 in
set_option maxRecDepth 100000 in
theorem law_crossingsAnew {p : Program} {e : Env} {s : State} {m : MethodId} {below : List Frame} {meth : Method} {c : Code} {l : Launch} (hlf : l.stackTraces = false) {x : Cx} (hL : xL x ≤ 3584) (hx : p.tables.exec = Jvm.exec) (hb : c.code = cL_law) (hml : c.maxLocals = 7) (hown : s.vm.findClass RL = some m.cls) (hts : ∀ w ∈ wsL_law, w.before #[Value.ref (xb x)] s = true) (hS : GS x s) (hZ : GZ x s s.heap) {M : Nat → Nat → Int32} {cn gn dn k : Nat} {pn : Nat → Nat} (hI : Inv M cn gn dn pn) (hk : 7 * k + 7 ≤ xL x) (hk2 : k ≤ 512)
    (NX : ∀ (M1 : Nat → Nat → Int32) (cn1 gn1 dn1 : Nat) (pn1 : Nat → Nat), Inv M1 cn1 gn1 dn1 pn1 → ∀ (H : Heap) (locs : List Loc), va_P (xD x) vwCl (wAll x M1) H → va_S (gF x) s.heap H locs → ∀ ls : Array Slot, lv_has ls 7 [(4, .int (nI (7 * k))), (0, .ref (xb x)), (1, .ref (xa x 0)), (2, .ref (xa x 38)), (3, .ref (xa x 56))] → W p l e room_1 s m #[Value.ref (xb x)] below meth c H locs (57 + 5 * k + 5) (1400 + 30 * k + 30) (lw_Z below #[Value.ref (xb x)] s) (F0 m 1416 ls []))
    (H : Heap) (locs : List Loc) (hP : va_P (xD x) vwCl (wAll x M) H) (hV : va_S (gF x) s.heap H locs) (ls : Array Slot) (hl : lv_has ls 7 [(4, .int (nI (7 * k))), (0, .ref (xb x)), (1, .ref (xa x 0)), (2, .ref (xa x 38)), (3, .ref (xa x 56))]) : W p l e room_1 s m #[Value.ref (xb x)] below meth c H locs (57 + 5 * k) (1400 + 30 * k) (lw_Z below #[Value.ref (xb x)] s) (F0 m 485 ls []) := by
    have hst := st_crossingsAnew hI (xX x (7 * k + 1)) (xX x (7 * k + 2))
    obtain ⟨hOM, hK1, hK2, cn1, gn1, dn1, pn1, hI1⟩ := hst
    have J_550 : ∀ (H : Heap) (locs : List Loc), va_P (xD x) vwCl (wAll x (mM_crossingsAnew (oM_crossingsAnew M cn gn dn pn (xX x (7 * k + 1)) (xX x (7 * k + 2))) cn gn dn pn (xX x (7 * k + 1)) (xX x (7 * k + 2)))) H → va_S (gF x) s.heap H locs → ∀ ls : Array Slot, lv_has ls 7 [(4, .int (nI (7 * k))), (0, .ref (xb x)), (1, .ref (xa x 0)), (2, .ref (xa x 38)), (3, .ref (xa x 56))] → W p l e room_1 s m #[Value.ref (xb x)] below meth c H locs (57 + 5 * k + 2) (1400 + 30 * k + 12) (lw_Z below #[Value.ref (xb x)] s) (F0 m 550 ls []) := by
      intro H locs hP hV ls hl
      refine lv_goto (tgt := 1416) hx hb dL_law_550 (by decide) ?_
      exact W.widen (by omega) (by omega) (NX _ cn1 gn1 dn1 pn1 hI1 H locs hP hV ls hl)
    refine lv_aload_n hx hb dL_law_485 rfl (lv_at hl 2 rfl) ?_
    refine lv_aload_n hx hb dL_law_486 rfl (lv_at hl 1 rfl) ?_
    refine lv_iload hx hb dL_law_487 (lv_at hl 0 rfl) ?_
    refine lv_iconst (v := 1) hx hb dL_law_489 (by decide) ?_
    refine h_iadd (v := nI (7 * k + 1)) hx hb dL_law_490 (nI_add (7 * k) 1) ?_
    refine g_sld (j := 7 * k + 1) hx hb hS hZ hV hL (by omega) dL_law_491 ?_
    refine lv_aload_n hx hb dL_law_492 rfl (lv_at hl 1 rfl) ?_
    refine lv_iload hx hb dL_law_493 (lv_at hl 0 rfl) ?_
    refine lv_iconst (v := 2) hx hb dL_law_495 (by decide) ?_
    refine h_iadd (v := nI (7 * k + 2)) hx hb dL_law_496 (nI_add (7 * k) 2) ?_
    refine g_sld (j := 7 * k + 2) hx hb hS hZ hV hL (by omega) dL_law_497 ?_
    refine lv_aload_n hx hb dL_law_498 rfl (lv_at hl 4 rfl) ?_
    refine g_call1 (vx_runSW (As := [.ref (xa x 0), .int (xX x (7 * k + 1)), .int (xX x (7 * k + 2)), .ref (xa x 56)]) (rest := []) ⟨hx, hb, hml, hown, hts⟩ (k_L_crossingsAnew l hlf x M cn gn dn pn (xX x (7 * k + 1)) (xX x (7 * k + 2)) hI.o) (vx_cwSW 4 hts gL_law_L_crossingsAnew rfl rfl rfl (by decide +kernel) ⟨Nat.le_of_ble_eq_true rfl, Nat.le_of_ble_eq_true rfl⟩) (g_preS hS hZ hP hV [.ref (xa x 0), .int (xX x (7 * k + 1)), .int (xX x (7 * k + 2)), .ref (xa x 56)]) rfl rfl hl.1 rfl (lv_room (Nat.le_of_ble_eq_true rfl)) dL_law_499 ⟨by show 57 + 5 * k + 2 ≤ 634721; omega, by show 1400 + 30 * k + 12 ≤ 7191940; omega⟩) hV (fun H locs hP hV => ?_)
    refine lv_istore (lv' := [(5, .int (oK_crossingsAnew M cn gn dn pn (xX x (7 * k + 1)) (xX x (7 * k + 2)))), (4, .int (nI (7 * k))), (0, .ref (xb x)), (1, .ref (xa x 0)), (2, .ref (xa x 38)), (3, .ref (xa x 56))]) hx hb dL_law_502 hl (by decide) rfl (fun ls hl => ?_)
    refine lv_aload_n hx hb dL_law_504 rfl (lv_at hl 4 rfl) ?_
    refine lv_aload_n hx hb dL_law_505 rfl (lv_at hl 2 rfl) ?_
    refine lv_iload hx hb dL_law_506 (lv_at hl 1 rfl) ?_
    refine lv_iconst (v := 1) hx hb dL_law_508 (by decide) ?_
    refine h_iadd (v := nI (7 * k + 1)) hx hb dL_law_509 (nI_add (7 * k) 1) ?_
    refine g_sld (j := 7 * k + 1) hx hb hS hZ hV hL (by omega) dL_law_510 ?_
    refine lv_aload_n hx hb dL_law_511 rfl (lv_at hl 2 rfl) ?_
    refine lv_iload hx hb dL_law_512 (lv_at hl 1 rfl) ?_
    refine lv_iconst (v := 2) hx hb dL_law_514 (by decide) ?_
    refine h_iadd (v := nI (7 * k + 2)) hx hb dL_law_515 (nI_add (7 * k) 2) ?_
    refine g_sld (j := 7 * k + 2) hx hb hS hZ hV hL (by omega) dL_law_516 ?_
    refine g_call1 (va_runV (As := [.int (xX x (7 * k + 1)), .int (xX x (7 * k + 2))]) (rest := []) ⟨hx, hb, hml, hown, hts⟩ (k_X3_crossingsAnew l x (oM_crossingsAnew M cn gn dn pn (xX x (7 * k + 1)) (xX x (7 * k + 2))) cn gn dn pn (xX x (7 * k + 1)) (xX x (7 * k + 2)) hOM) (cwV 2 hts gL_law_X3_crossingsAnew rfl rfl rfl (by decide +kernel) ⟨Nat.le_of_ble_eq_true rfl, Nat.le_of_ble_eq_true rfl⟩) (g_preV hS hZ hP hV [.int (xX x (7 * k + 1)), .int (xX x (7 * k + 2))] (id := 38) (by decide) rfl rfl) rfl rfl hl.1 rfl (lv_room (Nat.le_of_ble_eq_true rfl)) dL_law_517 ⟨by show 57 + 5 * k + 2 ≤ 634721; omega, by show 1400 + 30 * k + 12 ≤ 7191940; omega⟩) hV (fun H locs hP hV => ?_)
    refine lv_istore (lv' := [(6, .int (mV_crossingsAnew (oM_crossingsAnew M cn gn dn pn (xX x (7 * k + 1)) (xX x (7 * k + 2))) cn gn dn pn (xX x (7 * k + 1)) (xX x (7 * k + 2)))), (5, .int (oK_crossingsAnew M cn gn dn pn (xX x (7 * k + 1)) (xX x (7 * k + 2)))), (4, .int (nI (7 * k))), (0, .ref (xb x)), (1, .ref (xa x 0)), (2, .ref (xa x 38)), (3, .ref (xa x 56))]) hx hb dL_law_520 hl (by decide) rfl (fun ls hl => ?_)
    refine lv_aload_n hx hb dL_law_522 rfl (lv_at hl 5 rfl) ?_
    refine g_call1 (va_runV (As := []) (rest := []) ⟨hx, hb, hml, hown, hts⟩ (c_X3_thrown l x (mM_crossingsAnew (oM_crossingsAnew M cn gn dn pn (xX x (7 * k + 1)) (xX x (7 * k + 2))) cn gn dn pn (xX x (7 * k + 1)) (xX x (7 * k + 2)))) (cwV 0 hts gL_law_X3_thrown rfl rfl rfl (by decide +kernel) ⟨Nat.le_of_ble_eq_true rfl, Nat.le_of_ble_eq_true rfl⟩) (g_preV hS hZ hP hV [] (id := 38) (by decide) rfl rfl) rfl rfl hl.1 rfl (lv_room (Nat.le_of_ble_eq_true rfl)) dL_law_523 ⟨by show 57 + 5 * k + 2 ≤ 634721; omega, by show 1400 + 30 * k + 12 ≤ 7191940; omega⟩) hV (fun H locs hP hV => ?_)
    refine lv_iload hx hb dL_law_526 (lv_at hl 1 rfl) ?_
    refine lv_icmp_eq (tgt := 533) hx hb dL_law_528 (by decide) (fun c_1 => ?_) (fun c_1 => absurd hK1 c_1)
    refine lv_iload hx hb dL_law_533 (lv_at hl 1 rfl) ?_
    refine lv_if_ne (tgt := 550) hx hb dL_law_535 (by decide) (fun c_2 => ?_) (fun c_2 => ?_)
    · exact J_550 H locs hP hV ls (lv_sub hl [2, 3, 4, 5, 6] rfl)
    refine lv_aload_n hx hb dL_law_538 rfl (lv_at hl 6 rfl) ?_
    refine lv_iconst (v := 0) hx hb dL_law_539 (by decide) ?_
    refine g_lald hx hb hS hP dL_law_540 ?_
    refine lv_iload hx hb dL_law_541 (lv_at hl 0 rfl) ?_
    refine lv_i2l (v := (mV_crossingsAnew (oM_crossingsAnew M cn gn dn pn (xX x (7 * k + 1)) (xX x (7 * k + 2))) cn gn dn pn (xX x (7 * k + 1)) (xX x (7 * k + 2))).toInt64) hx hb dL_law_543 rfl ?_
    refine W.lcmp hx hb dL_law_544 ?_
    refine lv_if_eq (tgt := 550) hx hb dL_law_545 (by decide) (fun c_3 => ?_) (fun c_3 => absurd (lcmp_s (hK2 c_2)) c_3)
    exact J_550 H locs hP hV ls (lv_sub hl [2, 3, 4, 5, 6] rfl)
set_option maxHeartbeats 4000000 in
set_option maxRecDepth 100000 in
theorem law_isWell {p : Program} {e : Env} {s : State} {m : MethodId} {below : List Frame} {meth : Method} {c : Code} {l : Launch} (hlf : l.stackTraces = false) {x : Cx} (hL : xL x ≤ 3584) (hx : p.tables.exec = Jvm.exec) (hb : c.code = cL_law) (hml : c.maxLocals = 7) (hown : s.vm.findClass RL = some m.cls) (hts : ∀ w ∈ wsL_law, w.before #[Value.ref (xb x)] s = true) (hS : GS x s) (hZ : GZ x s s.heap) {M : Nat → Nat → Int32} {cn gn dn k : Nat} {pn : Nat → Nat} (hI : Inv M cn gn dn pn) (hk : 7 * k + 7 ≤ xL x) (hk2 : k ≤ 512)
    (NX : ∀ (M1 : Nat → Nat → Int32) (cn1 gn1 dn1 : Nat) (pn1 : Nat → Nat), Inv M1 cn1 gn1 dn1 pn1 → ∀ (H : Heap) (locs : List Loc), va_P (xD x) vwCl (wAll x M1) H → va_S (gF x) s.heap H locs → ∀ ls : Array Slot, lv_has ls 7 [(4, .int (nI (7 * k))), (0, .ref (xb x)), (1, .ref (xa x 0)), (2, .ref (xa x 38)), (3, .ref (xa x 56))] → W p l e room_1 s m #[Value.ref (xb x)] below meth c H locs (57 + 5 * k + 5) (1400 + 30 * k + 30) (lw_Z below #[Value.ref (xb x)] s) (F0 m 1416 ls []))
    (H : Heap) (locs : List Loc) (hP : va_P (xD x) vwCl (wAll x M) H) (hV : va_S (gF x) s.heap H locs) (ls : Array Slot) (hl : lv_has ls 7 [(4, .int (nI (7 * k))), (0, .ref (xb x)), (1, .ref (xa x 0)), (2, .ref (xa x 38)), (3, .ref (xa x 56))]) : W p l e room_1 s m #[Value.ref (xb x)] below meth c H locs (57 + 5 * k) (1400 + 30 * k) (lw_Z below #[Value.ref (xb x)] s) (F0 m 553 ls []) := by
    have hst := st_isWell hI (xX x (7 * k + 1)) (xX x (7 * k + 2))
    obtain ⟨hOM, hK1, hK2, hK3, cn1, gn1, dn1, pn1, hI1⟩ := hst
    have J_625 : ∀ (H : Heap) (locs : List Loc), va_P (xD x) vwCl (wAll x (mM_isWell (oM_isWell M cn gn dn pn (xX x (7 * k + 1)) (xX x (7 * k + 2))) cn gn dn pn (xX x (7 * k + 1)) (xX x (7 * k + 2)))) H → va_S (gF x) s.heap H locs → ∀ ls : Array Slot, lv_has ls 7 [(4, .int (nI (7 * k))), (0, .ref (xb x)), (1, .ref (xa x 0)), (2, .ref (xa x 38)), (3, .ref (xa x 56))] → W p l e room_1 s m #[Value.ref (xb x)] below meth c H locs (57 + 5 * k + 2) (1400 + 30 * k + 12) (lw_Z below #[Value.ref (xb x)] s) (F0 m 625 ls []) := by
      intro H locs hP hV ls hl
      refine lv_goto (tgt := 1416) hx hb dL_law_625 (by decide) ?_
      exact W.widen (by omega) (by omega) (NX _ cn1 gn1 dn1 pn1 hI1 H locs hP hV ls hl)
    refine lv_aload_n hx hb dL_law_553 rfl (lv_at hl 2 rfl) ?_
    refine lv_aload_n hx hb dL_law_554 rfl (lv_at hl 1 rfl) ?_
    refine lv_iload hx hb dL_law_555 (lv_at hl 0 rfl) ?_
    refine lv_iconst (v := 1) hx hb dL_law_557 (by decide) ?_
    refine h_iadd (v := nI (7 * k + 1)) hx hb dL_law_558 (nI_add (7 * k) 1) ?_
    refine g_sld (j := 7 * k + 1) hx hb hS hZ hV hL (by omega) dL_law_559 ?_
    refine lv_aload_n hx hb dL_law_560 rfl (lv_at hl 1 rfl) ?_
    refine lv_iload hx hb dL_law_561 (lv_at hl 0 rfl) ?_
    refine lv_iconst (v := 2) hx hb dL_law_563 (by decide) ?_
    refine h_iadd (v := nI (7 * k + 2)) hx hb dL_law_564 (nI_add (7 * k) 2) ?_
    refine g_sld (j := 7 * k + 2) hx hb hS hZ hV hL (by omega) dL_law_565 ?_
    refine lv_aload_n hx hb dL_law_566 rfl (lv_at hl 4 rfl) ?_
    refine g_call1 (vx_runSW (As := [.ref (xa x 0), .int (xX x (7 * k + 1)), .int (xX x (7 * k + 2)), .ref (xa x 56)]) (rest := []) ⟨hx, hb, hml, hown, hts⟩ (k_L_isWell l hlf x M cn gn dn pn (xX x (7 * k + 1)) (xX x (7 * k + 2)) hI.o) (vx_cwSW 4 hts gL_law_L_isWell rfl rfl rfl (by decide +kernel) ⟨Nat.le_of_ble_eq_true rfl, Nat.le_of_ble_eq_true rfl⟩) (g_preS hS hZ hP hV [.ref (xa x 0), .int (xX x (7 * k + 1)), .int (xX x (7 * k + 2)), .ref (xa x 56)]) rfl rfl hl.1 rfl (lv_room (Nat.le_of_ble_eq_true rfl)) dL_law_567 ⟨by show 57 + 5 * k + 2 ≤ 634721; omega, by show 1400 + 30 * k + 12 ≤ 7191940; omega⟩) hV (fun H locs hP hV => ?_)
    refine lv_istore (lv' := [(5, .int (oK_isWell M cn gn dn pn (xX x (7 * k + 1)) (xX x (7 * k + 2)))), (4, .int (nI (7 * k))), (0, .ref (xb x)), (1, .ref (xa x 0)), (2, .ref (xa x 38)), (3, .ref (xa x 56))]) hx hb dL_law_570 hl (by decide) rfl (fun ls hl => ?_)
    refine lv_aload_n hx hb dL_law_572 rfl (lv_at hl 4 rfl) ?_
    refine lv_aload_n hx hb dL_law_573 rfl (lv_at hl 2 rfl) ?_
    refine lv_iload hx hb dL_law_574 (lv_at hl 1 rfl) ?_
    refine lv_iconst (v := 1) hx hb dL_law_576 (by decide) ?_
    refine h_iadd (v := nI (7 * k + 1)) hx hb dL_law_577 (nI_add (7 * k) 1) ?_
    refine g_sld (j := 7 * k + 1) hx hb hS hZ hV hL (by omega) dL_law_578 ?_
    refine lv_aload_n hx hb dL_law_579 rfl (lv_at hl 2 rfl) ?_
    refine lv_iload hx hb dL_law_580 (lv_at hl 1 rfl) ?_
    refine lv_iconst (v := 2) hx hb dL_law_582 (by decide) ?_
    refine h_iadd (v := nI (7 * k + 2)) hx hb dL_law_583 (nI_add (7 * k) 2) ?_
    refine g_sld (j := 7 * k + 2) hx hb hS hZ hV hL (by omega) dL_law_584 ?_
    refine g_call1 (va_runV (As := [.int (xX x (7 * k + 1)), .int (xX x (7 * k + 2))]) (rest := []) ⟨hx, hb, hml, hown, hts⟩ (k_X3_isWell l x (oM_isWell M cn gn dn pn (xX x (7 * k + 1)) (xX x (7 * k + 2))) cn gn dn pn (xX x (7 * k + 1)) (xX x (7 * k + 2)) hOM) (cwV 2 hts gL_law_X3_isWell rfl rfl rfl (by decide +kernel) ⟨Nat.le_of_ble_eq_true rfl, Nat.le_of_ble_eq_true rfl⟩) (g_preV hS hZ hP hV [.int (xX x (7 * k + 1)), .int (xX x (7 * k + 2))] (id := 38) (by decide) rfl rfl) rfl rfl hl.1 rfl (lv_room (Nat.le_of_ble_eq_true rfl)) dL_law_585 ⟨by show 57 + 5 * k + 2 ≤ 634721; omega, by show 1400 + 30 * k + 12 ≤ 7191940; omega⟩) hV (fun H locs hP hV => ?_)
    refine lv_istore (lv' := [(6, .int (mV_isWell (oM_isWell M cn gn dn pn (xX x (7 * k + 1)) (xX x (7 * k + 2))) cn gn dn pn (xX x (7 * k + 1)) (xX x (7 * k + 2)))), (5, .int (oK_isWell M cn gn dn pn (xX x (7 * k + 1)) (xX x (7 * k + 2)))), (4, .int (nI (7 * k))), (0, .ref (xb x)), (1, .ref (xa x 0)), (2, .ref (xa x 38)), (3, .ref (xa x 56))]) hx hb dL_law_588 hl (by decide) rfl (fun ls hl => ?_)
    refine lv_aload_n hx hb dL_law_590 rfl (lv_at hl 5 rfl) ?_
    refine g_call1 (va_runV (As := []) (rest := []) ⟨hx, hb, hml, hown, hts⟩ (c_X3_thrown l x (mM_isWell (oM_isWell M cn gn dn pn (xX x (7 * k + 1)) (xX x (7 * k + 2))) cn gn dn pn (xX x (7 * k + 1)) (xX x (7 * k + 2)))) (cwV 0 hts gL_law_X3_thrown rfl rfl rfl (by decide +kernel) ⟨Nat.le_of_ble_eq_true rfl, Nat.le_of_ble_eq_true rfl⟩) (g_preV hS hZ hP hV [] (id := 38) (by decide) rfl rfl) rfl rfl hl.1 rfl (lv_room (Nat.le_of_ble_eq_true rfl)) dL_law_591 ⟨by show 57 + 5 * k + 2 ≤ 634721; omega, by show 1400 + 30 * k + 12 ≤ 7191940; omega⟩) hV (fun H locs hP hV => ?_)
    refine lv_iload hx hb dL_law_594 (lv_at hl 1 rfl) ?_
    refine lv_icmp_eq (tgt := 601) hx hb dL_law_596 (by decide) (fun c_1 => ?_) (fun c_1 => absurd hK1 c_1)
    refine lv_iload hx hb dL_law_601 (lv_at hl 1 rfl) ?_
    refine lv_if_ne (tgt := 625) hx hb dL_law_603 (by decide) (fun c_2 => ?_) (fun c_2 => ?_)
    · exact J_625 H locs hP hV ls (lv_sub hl [2, 3, 4, 5, 6] rfl)
    refine lv_aload_n hx hb dL_law_606 rfl (lv_at hl 6 rfl) ?_
    refine lv_iconst (v := 0) hx hb dL_law_607 (by decide) ?_
    refine g_lald hx hb hS hP dL_law_608 ?_
    refine lv_iload hx hb dL_law_609 (lv_at hl 0 rfl) ?_
    refine lv_if_eq (tgt := 618) hx hb dL_law_611 (by decide) (fun c_3 => ?_) (fun c_3 => ?_)
    · -- no
      refine lv_lconst (v := 0) hx hb dL_law_618 (by decide) ?_
      refine W.lcmp hx hb dL_law_619 ?_
      refine lv_if_eq (tgt := 625) hx hb dL_law_620 (by decide) (fun c_9 => ?_) (fun c_9 => absurd (lcmp_z ((hK2 c_2).symm.trans c_3) rfl) c_9)
      exact J_625 H locs hP hV ls (lv_sub hl [2, 3, 4, 5, 6] rfl)
    · -- yes
      refine lv_lconst (v := 1) hx hb dL_law_614 (by decide) ?_
      refine lv_goto (tgt := 619) hx hb dL_law_615 (by decide) ?_
      refine W.lcmp hx hb dL_law_619 ?_
      refine lv_if_eq (tgt := 625) hx hb dL_law_620 (by decide) (fun c_9 => ?_) (fun c_9 => absurd (lcmp_z ((hK2 c_2).symm.trans (hK3.resolve_left c_3)) rfl) c_9)
      exact J_625 H locs hP hV ls (lv_sub hl [2, 3, 4, 5, 6] rfl)
set_option maxHeartbeats 4000000 in
set_option maxRecDepth 100000 in
theorem law_agree {p : Program} {e : Env} {s : State} {m : MethodId} {below : List Frame} {meth : Method} {c : Code} {l : Launch} (hlf : l.stackTraces = false) {x : Cx} (hL : xL x ≤ 3584) (hx : p.tables.exec = Jvm.exec) (hb : c.code = cL_law) (hml : c.maxLocals = 7) (hown : s.vm.findClass RL = some m.cls) (hts : ∀ w ∈ wsL_law, w.before #[Value.ref (xb x)] s = true) (hS : GS x s) (hZ : GZ x s s.heap) {M : Nat → Nat → Int32} {cn gn dn k : Nat} {pn : Nat → Nat} (hI : Inv M cn gn dn pn) (hk : 7 * k + 7 ≤ xL x) (hk2 : k ≤ 512)
    (NX : ∀ (M1 : Nat → Nat → Int32) (cn1 gn1 dn1 : Nat) (pn1 : Nat → Nat), Inv M1 cn1 gn1 dn1 pn1 → ∀ (H : Heap) (locs : List Loc), va_P (xD x) vwCl (wAll x M1) H → va_S (gF x) s.heap H locs → ∀ ls : Array Slot, lv_has ls 7 [(4, .int (nI (7 * k))), (0, .ref (xb x)), (1, .ref (xa x 0)), (2, .ref (xa x 38)), (3, .ref (xa x 56))] → W p l e room_1 s m #[Value.ref (xb x)] below meth c H locs (57 + 5 * k + 5) (1400 + 30 * k + 30) (lw_Z below #[Value.ref (xb x)] s) (F0 m 1416 ls []))
    (H : Heap) (locs : List Loc) (hP : va_P (xD x) vwCl (wAll x M) H) (hV : va_S (gF x) s.heap H locs) (ls : Array Slot) (hl : lv_has ls 7 [(4, .int (nI (7 * k))), (0, .ref (xb x)), (1, .ref (xa x 0)), (2, .ref (xa x 38)), (3, .ref (xa x 56))]) : W p l e room_1 s m #[Value.ref (xb x)] below meth c H locs (57 + 5 * k) (1400 + 30 * k) (lw_Z below #[Value.ref (xb x)] s) (F0 m 628 ls []) := by
    have hst := st_agree hI (xX x (7 * k + 1)) (xX x (7 * k + 2))
    obtain ⟨hOM, hK1, hK2, cn1, gn1, dn1, pn1, hI1⟩ := hst
    have J_693 : ∀ (H : Heap) (locs : List Loc), va_P (xD x) vwCl (wAll x (mM_agree (oM_agree M cn gn dn pn (xX x (7 * k + 1)) (xX x (7 * k + 2))) cn gn dn pn (xX x (7 * k + 1)) (xX x (7 * k + 2)))) H → va_S (gF x) s.heap H locs → ∀ ls : Array Slot, lv_has ls 7 [(4, .int (nI (7 * k))), (0, .ref (xb x)), (1, .ref (xa x 0)), (2, .ref (xa x 38)), (3, .ref (xa x 56))] → W p l e room_1 s m #[Value.ref (xb x)] below meth c H locs (57 + 5 * k + 3) (1400 + 30 * k + 18) (lw_Z below #[Value.ref (xb x)] s) (F0 m 693 ls []) := by
      intro H locs hP hV ls hl
      refine lv_goto (tgt := 1416) hx hb dL_law_693 (by decide) ?_
      exact W.widen (by omega) (by omega) (NX _ cn1 gn1 dn1 pn1 hI1 H locs hP hV ls hl)
    refine lv_aload_n hx hb dL_law_628 rfl (lv_at hl 2 rfl) ?_
    refine lv_aload_n hx hb dL_law_629 rfl (lv_at hl 1 rfl) ?_
    refine lv_iload hx hb dL_law_630 (lv_at hl 0 rfl) ?_
    refine lv_iconst (v := 1) hx hb dL_law_632 (by decide) ?_
    refine h_iadd (v := nI (7 * k + 1)) hx hb dL_law_633 (nI_add (7 * k) 1) ?_
    refine g_sld (j := 7 * k + 1) hx hb hS hZ hV hL (by omega) dL_law_634 ?_
    refine lv_aload_n hx hb dL_law_635 rfl (lv_at hl 1 rfl) ?_
    refine lv_iload hx hb dL_law_636 (lv_at hl 0 rfl) ?_
    refine lv_iconst (v := 2) hx hb dL_law_638 (by decide) ?_
    refine h_iadd (v := nI (7 * k + 2)) hx hb dL_law_639 (nI_add (7 * k) 2) ?_
    refine g_sld (j := 7 * k + 2) hx hb hS hZ hV hL (by omega) dL_law_640 ?_
    refine lv_aload_n hx hb dL_law_641 rfl (lv_at hl 4 rfl) ?_
    refine g_call1 (vx_runSW (As := [.ref (xa x 0), .int (xX x (7 * k + 1)), .int (xX x (7 * k + 2)), .ref (xa x 56)]) (rest := []) ⟨hx, hb, hml, hown, hts⟩ (k_L_agree l hlf x M cn gn dn pn (xX x (7 * k + 1)) (xX x (7 * k + 2)) hI.o) (vx_cwSW 4 hts gL_law_L_agree rfl rfl rfl (by decide +kernel) ⟨Nat.le_of_ble_eq_true rfl, Nat.le_of_ble_eq_true rfl⟩) (g_preS hS hZ hP hV [.ref (xa x 0), .int (xX x (7 * k + 1)), .int (xX x (7 * k + 2)), .ref (xa x 56)]) rfl rfl hl.1 rfl (lv_room (Nat.le_of_ble_eq_true rfl)) dL_law_642 ⟨by show 57 + 5 * k + 3 ≤ 634721; omega, by show 1400 + 30 * k + 18 ≤ 7191940; omega⟩) hV (fun H locs hP hV => ?_)
    refine lv_istore (lv' := [(5, .int (oK_agree M cn gn dn pn (xX x (7 * k + 1)) (xX x (7 * k + 2)))), (4, .int (nI (7 * k))), (0, .ref (xb x)), (1, .ref (xa x 0)), (2, .ref (xa x 38)), (3, .ref (xa x 56))]) hx hb dL_law_645 hl (by decide) rfl (fun ls hl => ?_)
    refine lv_aload_n hx hb dL_law_647 rfl (lv_at hl 4 rfl) ?_
    refine lv_aload_n hx hb dL_law_648 rfl (lv_at hl 2 rfl) ?_
    refine lv_iload hx hb dL_law_649 (lv_at hl 1 rfl) ?_
    refine lv_iconst (v := 1) hx hb dL_law_651 (by decide) ?_
    refine h_iadd (v := nI (7 * k + 1)) hx hb dL_law_652 (nI_add (7 * k) 1) ?_
    refine g_sld (j := 7 * k + 1) hx hb hS hZ hV hL (by omega) dL_law_653 ?_
    refine lv_aload_n hx hb dL_law_654 rfl (lv_at hl 2 rfl) ?_
    refine lv_iload hx hb dL_law_655 (lv_at hl 1 rfl) ?_
    refine lv_iconst (v := 2) hx hb dL_law_657 (by decide) ?_
    refine h_iadd (v := nI (7 * k + 2)) hx hb dL_law_658 (nI_add (7 * k) 2) ?_
    refine g_sld (j := 7 * k + 2) hx hb hS hZ hV hL (by omega) dL_law_659 ?_
    refine g_call1 (va_runV (As := [.int (xX x (7 * k + 1)), .int (xX x (7 * k + 2))]) (rest := []) ⟨hx, hb, hml, hown, hts⟩ (k_X3_agree l x (oM_agree M cn gn dn pn (xX x (7 * k + 1)) (xX x (7 * k + 2))) cn gn dn pn (xX x (7 * k + 1)) (xX x (7 * k + 2)) hOM) (cwV 2 hts gL_law_X3_agree rfl rfl rfl (by decide +kernel) ⟨Nat.le_of_ble_eq_true rfl, Nat.le_of_ble_eq_true rfl⟩) (g_preV hS hZ hP hV [.int (xX x (7 * k + 1)), .int (xX x (7 * k + 2))] (id := 38) (by decide) rfl rfl) rfl rfl hl.1 rfl (lv_room (Nat.le_of_ble_eq_true rfl)) dL_law_660 ⟨by show 57 + 5 * k + 3 ≤ 634721; omega, by show 1400 + 30 * k + 18 ≤ 7191940; omega⟩) hV (fun H locs hP hV => ?_)
    refine lv_istore (lv' := [(6, .int (mV_agree (oM_agree M cn gn dn pn (xX x (7 * k + 1)) (xX x (7 * k + 2))) cn gn dn pn (xX x (7 * k + 1)) (xX x (7 * k + 2)))), (5, .int (oK_agree M cn gn dn pn (xX x (7 * k + 1)) (xX x (7 * k + 2)))), (4, .int (nI (7 * k))), (0, .ref (xb x)), (1, .ref (xa x 0)), (2, .ref (xa x 38)), (3, .ref (xa x 56))]) hx hb dL_law_663 hl (by decide) rfl (fun ls hl => ?_)
    refine lv_aload_n hx hb dL_law_665 rfl (lv_at hl 5 rfl) ?_
    refine g_call1 (va_runV (As := []) (rest := []) ⟨hx, hb, hml, hown, hts⟩ (c_X3_thrown l x (mM_agree (oM_agree M cn gn dn pn (xX x (7 * k + 1)) (xX x (7 * k + 2))) cn gn dn pn (xX x (7 * k + 1)) (xX x (7 * k + 2)))) (cwV 0 hts gL_law_X3_thrown rfl rfl rfl (by decide +kernel) ⟨Nat.le_of_ble_eq_true rfl, Nat.le_of_ble_eq_true rfl⟩) (g_preV hS hZ hP hV [] (id := 38) (by decide) rfl rfl) rfl rfl hl.1 rfl (lv_room (Nat.le_of_ble_eq_true rfl)) dL_law_666 ⟨by show 57 + 5 * k + 3 ≤ 634721; omega, by show 1400 + 30 * k + 18 ≤ 7191940; omega⟩) hV (fun H locs hP hV => ?_)
    refine lv_iload hx hb dL_law_669 (lv_at hl 1 rfl) ?_
    refine lv_icmp_eq (tgt := 676) hx hb dL_law_671 (by decide) (fun c_1 => ?_) (fun c_1 => absurd hK1 c_1)
    refine lv_iload hx hb dL_law_676 (lv_at hl 1 rfl) ?_
    refine lv_if_ne (tgt := 693) hx hb dL_law_678 (by decide) (fun c_2 => ?_) (fun c_2 => ?_)
    · exact J_693 H locs hP hV ls (lv_sub hl [2, 3, 4, 5, 6] rfl)
    refine lv_aload_n hx hb dL_law_681 rfl (lv_at hl 6 rfl) ?_
    refine lv_iconst (v := 0) hx hb dL_law_682 (by decide) ?_
    refine g_lald hx hb hS hP dL_law_683 ?_
    refine lv_iload hx hb dL_law_684 (lv_at hl 0 rfl) ?_
    refine lv_i2l (v := (mV_agree (oM_agree M cn gn dn pn (xX x (7 * k + 1)) (xX x (7 * k + 2))) cn gn dn pn (xX x (7 * k + 1)) (xX x (7 * k + 2))).toInt64) hx hb dL_law_686 rfl ?_
    refine W.lcmp hx hb dL_law_687 ?_
    refine lv_if_eq (tgt := 693) hx hb dL_law_688 (by decide) (fun c_3 => ?_) (fun c_3 => absurd (lcmp_s (hK2 c_2)) c_3)
    exact J_693 H locs hP hV ls (lv_sub hl [2, 3, 4, 5, 6] rfl)
set_option maxHeartbeats 4000000 in
set_option maxRecDepth 100000 in
theorem law_isAgreed {p : Program} {e : Env} {s : State} {m : MethodId} {below : List Frame} {meth : Method} {c : Code} {l : Launch} (hlf : l.stackTraces = false) {x : Cx} (hL : xL x ≤ 3584) (hx : p.tables.exec = Jvm.exec) (hb : c.code = cL_law) (hml : c.maxLocals = 7) (hown : s.vm.findClass RL = some m.cls) (hts : ∀ w ∈ wsL_law, w.before #[Value.ref (xb x)] s = true) (hS : GS x s) (hZ : GZ x s s.heap) {M : Nat → Nat → Int32} {cn gn dn k : Nat} {pn : Nat → Nat} (hI : Inv M cn gn dn pn) (hk : 7 * k + 7 ≤ xL x) (hk2 : k ≤ 512)
    (NX : ∀ (M1 : Nat → Nat → Int32) (cn1 gn1 dn1 : Nat) (pn1 : Nat → Nat), Inv M1 cn1 gn1 dn1 pn1 → ∀ (H : Heap) (locs : List Loc), va_P (xD x) vwCl (wAll x M1) H → va_S (gF x) s.heap H locs → ∀ ls : Array Slot, lv_has ls 7 [(4, .int (nI (7 * k))), (0, .ref (xb x)), (1, .ref (xa x 0)), (2, .ref (xa x 38)), (3, .ref (xa x 56))] → W p l e room_1 s m #[Value.ref (xb x)] below meth c H locs (57 + 5 * k + 5) (1400 + 30 * k + 30) (lw_Z below #[Value.ref (xb x)] s) (F0 m 1416 ls []))
    (H : Heap) (locs : List Loc) (hP : va_P (xD x) vwCl (wAll x M) H) (hV : va_S (gF x) s.heap H locs) (ls : Array Slot) (hl : lv_has ls 7 [(4, .int (nI (7 * k))), (0, .ref (xb x)), (1, .ref (xa x 0)), (2, .ref (xa x 38)), (3, .ref (xa x 56))]) : W p l e room_1 s m #[Value.ref (xb x)] below meth c H locs (57 + 5 * k) (1400 + 30 * k) (lw_Z below #[Value.ref (xb x)] s) (F0 m 696 ls []) := by
    have hst := st_isAgreed hI (xX x (7 * k + 1)) (xX x (7 * k + 2))
    obtain ⟨hOM, hK1, hK2, hK3, cn1, gn1, dn1, pn1, hI1⟩ := hst
    have J_768 : ∀ (H : Heap) (locs : List Loc), va_P (xD x) vwCl (wAll x (mM_isAgreed (oM_isAgreed M cn gn dn pn (xX x (7 * k + 1)) (xX x (7 * k + 2))) cn gn dn pn (xX x (7 * k + 1)) (xX x (7 * k + 2)))) H → va_S (gF x) s.heap H locs → ∀ ls : Array Slot, lv_has ls 7 [(4, .int (nI (7 * k))), (0, .ref (xb x)), (1, .ref (xa x 0)), (2, .ref (xa x 38)), (3, .ref (xa x 56))] → W p l e room_1 s m #[Value.ref (xb x)] below meth c H locs (57 + 5 * k + 2) (1400 + 30 * k + 12) (lw_Z below #[Value.ref (xb x)] s) (F0 m 768 ls []) := by
      intro H locs hP hV ls hl
      refine lv_goto (tgt := 1416) hx hb dL_law_768 (by decide) ?_
      exact W.widen (by omega) (by omega) (NX _ cn1 gn1 dn1 pn1 hI1 H locs hP hV ls hl)
    have hA4 := hI.a4
    refine lv_aload_n hx hb dL_law_696 rfl (lv_at hl 2 rfl) ?_
    refine lv_aload_n hx hb dL_law_697 rfl (lv_at hl 1 rfl) ?_
    refine lv_iload hx hb dL_law_698 (lv_at hl 0 rfl) ?_
    refine lv_iconst (v := 1) hx hb dL_law_700 (by decide) ?_
    refine h_iadd (v := nI (7 * k + 1)) hx hb dL_law_701 (nI_add (7 * k) 1) ?_
    refine g_sld (j := 7 * k + 1) hx hb hS hZ hV hL (by omega) dL_law_702 ?_
    refine lv_aload_n hx hb dL_law_703 rfl (lv_at hl 1 rfl) ?_
    refine lv_iload hx hb dL_law_704 (lv_at hl 0 rfl) ?_
    refine lv_iconst (v := 2) hx hb dL_law_706 (by decide) ?_
    refine h_iadd (v := nI (7 * k + 2)) hx hb dL_law_707 (nI_add (7 * k) 2) ?_
    refine g_sld (j := 7 * k + 2) hx hb hS hZ hV hL (by omega) dL_law_708 ?_
    refine lv_aload_n hx hb dL_law_709 rfl (lv_at hl 4 rfl) ?_
    refine g_call1 (vx_runSW (As := [.ref (xa x 0), .int (xX x (7 * k + 1)), .int (xX x (7 * k + 2)), .ref (xa x 56)]) (rest := []) ⟨hx, hb, hml, hown, hts⟩ (k_L_isAgreed l hlf x M cn gn dn pn (xX x (7 * k + 1)) (xX x (7 * k + 2)) hI.o hA4) (vx_cwSW 4 hts gL_law_L_isAgreed rfl rfl rfl (by decide +kernel) ⟨Nat.le_of_ble_eq_true rfl, Nat.le_of_ble_eq_true rfl⟩) (g_preS hS hZ hP hV [.ref (xa x 0), .int (xX x (7 * k + 1)), .int (xX x (7 * k + 2)), .ref (xa x 56)]) rfl rfl hl.1 rfl (lv_room (Nat.le_of_ble_eq_true rfl)) dL_law_710 ⟨by show 57 + 5 * k + 2 ≤ 634721; omega, by show 1400 + 30 * k + 12 ≤ 7191940; omega⟩) hV (fun H locs hP hV => ?_)
    refine lv_istore (lv' := [(5, .int (oK_isAgreed M cn gn dn pn (xX x (7 * k + 1)) (xX x (7 * k + 2)))), (4, .int (nI (7 * k))), (0, .ref (xb x)), (1, .ref (xa x 0)), (2, .ref (xa x 38)), (3, .ref (xa x 56))]) hx hb dL_law_713 hl (by decide) rfl (fun ls hl => ?_)
    refine lv_aload_n hx hb dL_law_715 rfl (lv_at hl 4 rfl) ?_
    refine lv_aload_n hx hb dL_law_716 rfl (lv_at hl 2 rfl) ?_
    refine lv_iload hx hb dL_law_717 (lv_at hl 1 rfl) ?_
    refine lv_iconst (v := 1) hx hb dL_law_719 (by decide) ?_
    refine h_iadd (v := nI (7 * k + 1)) hx hb dL_law_720 (nI_add (7 * k) 1) ?_
    refine g_sld (j := 7 * k + 1) hx hb hS hZ hV hL (by omega) dL_law_721 ?_
    refine lv_aload_n hx hb dL_law_722 rfl (lv_at hl 2 rfl) ?_
    refine lv_iload hx hb dL_law_723 (lv_at hl 1 rfl) ?_
    refine lv_iconst (v := 2) hx hb dL_law_725 (by decide) ?_
    refine h_iadd (v := nI (7 * k + 2)) hx hb dL_law_726 (nI_add (7 * k) 2) ?_
    refine g_sld (j := 7 * k + 2) hx hb hS hZ hV hL (by omega) dL_law_727 ?_
    refine g_call1 (va_runV (As := [.int (xX x (7 * k + 1)), .int (xX x (7 * k + 2))]) (rest := []) ⟨hx, hb, hml, hown, hts⟩ (k_X3_isAgreed l x (oM_isAgreed M cn gn dn pn (xX x (7 * k + 1)) (xX x (7 * k + 2))) cn gn dn pn (xX x (7 * k + 1)) (xX x (7 * k + 2)) hOM) (cwV 2 hts gL_law_X3_isAgreed rfl rfl rfl (by decide +kernel) ⟨Nat.le_of_ble_eq_true rfl, Nat.le_of_ble_eq_true rfl⟩) (g_preV hS hZ hP hV [.int (xX x (7 * k + 1)), .int (xX x (7 * k + 2))] (id := 38) (by decide) rfl rfl) rfl rfl hl.1 rfl (lv_room (Nat.le_of_ble_eq_true rfl)) dL_law_728 ⟨by show 57 + 5 * k + 2 ≤ 634721; omega, by show 1400 + 30 * k + 12 ≤ 7191940; omega⟩) hV (fun H locs hP hV => ?_)
    refine lv_istore (lv' := [(6, .int (mV_isAgreed (oM_isAgreed M cn gn dn pn (xX x (7 * k + 1)) (xX x (7 * k + 2))) cn gn dn pn (xX x (7 * k + 1)) (xX x (7 * k + 2)))), (5, .int (oK_isAgreed M cn gn dn pn (xX x (7 * k + 1)) (xX x (7 * k + 2)))), (4, .int (nI (7 * k))), (0, .ref (xb x)), (1, .ref (xa x 0)), (2, .ref (xa x 38)), (3, .ref (xa x 56))]) hx hb dL_law_731 hl (by decide) rfl (fun ls hl => ?_)
    refine lv_aload_n hx hb dL_law_733 rfl (lv_at hl 5 rfl) ?_
    refine g_call1 (va_runV (As := []) (rest := []) ⟨hx, hb, hml, hown, hts⟩ (c_X3_thrown l x (mM_isAgreed (oM_isAgreed M cn gn dn pn (xX x (7 * k + 1)) (xX x (7 * k + 2))) cn gn dn pn (xX x (7 * k + 1)) (xX x (7 * k + 2)))) (cwV 0 hts gL_law_X3_thrown rfl rfl rfl (by decide +kernel) ⟨Nat.le_of_ble_eq_true rfl, Nat.le_of_ble_eq_true rfl⟩) (g_preV hS hZ hP hV [] (id := 38) (by decide) rfl rfl) rfl rfl hl.1 rfl (lv_room (Nat.le_of_ble_eq_true rfl)) dL_law_734 ⟨by show 57 + 5 * k + 2 ≤ 634721; omega, by show 1400 + 30 * k + 12 ≤ 7191940; omega⟩) hV (fun H locs hP hV => ?_)
    refine lv_iload hx hb dL_law_737 (lv_at hl 1 rfl) ?_
    refine lv_icmp_eq (tgt := 744) hx hb dL_law_739 (by decide) (fun c_1 => ?_) (fun c_1 => absurd hK1 c_1)
    refine lv_iload hx hb dL_law_744 (lv_at hl 1 rfl) ?_
    refine lv_if_ne (tgt := 768) hx hb dL_law_746 (by decide) (fun c_2 => ?_) (fun c_2 => ?_)
    · exact J_768 H locs hP hV ls (lv_sub hl [2, 3, 4, 5, 6] rfl)
    refine lv_aload_n hx hb dL_law_749 rfl (lv_at hl 6 rfl) ?_
    refine lv_iconst (v := 0) hx hb dL_law_750 (by decide) ?_
    refine g_lald hx hb hS hP dL_law_751 ?_
    refine lv_iload hx hb dL_law_752 (lv_at hl 0 rfl) ?_
    refine lv_if_eq (tgt := 761) hx hb dL_law_754 (by decide) (fun c_3 => ?_) (fun c_3 => ?_)
    · -- no
      refine lv_lconst (v := 0) hx hb dL_law_761 (by decide) ?_
      refine W.lcmp hx hb dL_law_762 ?_
      refine lv_if_eq (tgt := 768) hx hb dL_law_763 (by decide) (fun c_9 => ?_) (fun c_9 => absurd (lcmp_z ((hK2 c_2).symm.trans c_3) rfl) c_9)
      exact J_768 H locs hP hV ls (lv_sub hl [2, 3, 4, 5, 6] rfl)
    · -- yes
      refine lv_lconst (v := 1) hx hb dL_law_757 (by decide) ?_
      refine lv_goto (tgt := 762) hx hb dL_law_758 (by decide) ?_
      refine W.lcmp hx hb dL_law_762 ?_
      refine lv_if_eq (tgt := 768) hx hb dL_law_763 (by decide) (fun c_9 => ?_) (fun c_9 => absurd (lcmp_z ((hK2 c_2).symm.trans (hK3.resolve_left c_3)) rfl) c_9)
      exact J_768 H locs hP hV ls (lv_sub hl [2, 3, 4, 5, 6] rfl)
set_option maxHeartbeats 4000000 in
set_option maxRecDepth 100000 in
theorem law_bare {p : Program} {e : Env} {s : State} {m : MethodId} {below : List Frame} {meth : Method} {c : Code} {l : Launch} (hlf : l.stackTraces = false) {x : Cx} (hL : xL x ≤ 3584) (hx : p.tables.exec = Jvm.exec) (hb : c.code = cL_law) (hml : c.maxLocals = 7) (hown : s.vm.findClass RL = some m.cls) (hts : ∀ w ∈ wsL_law, w.before #[Value.ref (xb x)] s = true) (hS : GS x s) (hZ : GZ x s s.heap) {M : Nat → Nat → Int32} {cn gn dn k : Nat} {pn : Nat → Nat} (hI : Inv M cn gn dn pn) (hk : 7 * k + 7 ≤ xL x) (hk2 : k ≤ 512)
    (NX : ∀ (M1 : Nat → Nat → Int32) (cn1 gn1 dn1 : Nat) (pn1 : Nat → Nat), Inv M1 cn1 gn1 dn1 pn1 → ∀ (H : Heap) (locs : List Loc), va_P (xD x) vwCl (wAll x M1) H → va_S (gF x) s.heap H locs → ∀ ls : Array Slot, lv_has ls 7 [(4, .int (nI (7 * k))), (0, .ref (xb x)), (1, .ref (xa x 0)), (2, .ref (xa x 38)), (3, .ref (xa x 56))] → W p l e room_1 s m #[Value.ref (xb x)] below meth c H locs (57 + 5 * k + 5) (1400 + 30 * k + 30) (lw_Z below #[Value.ref (xb x)] s) (F0 m 1416 ls []))
    (H : Heap) (locs : List Loc) (hP : va_P (xD x) vwCl (wAll x M) H) (hV : va_S (gF x) s.heap H locs) (ls : Array Slot) (hl : lv_has ls 7 [(4, .int (nI (7 * k))), (0, .ref (xb x)), (1, .ref (xa x 0)), (2, .ref (xa x 38)), (3, .ref (xa x 56))]) : W p l e room_1 s m #[Value.ref (xb x)] below meth c H locs (57 + 5 * k) (1400 + 30 * k) (lw_Z below #[Value.ref (xb x)] s) (F0 m 771 ls []) := by
    have hst := st_bare hI 
    obtain ⟨hK1, hI1⟩ := hst
    refine lv_aload_n hx hb dL_law_771 rfl (lv_at hl 2 rfl) ?_
    refine g_call1 (va_runV (As := []) (rest := []) ⟨hx, hb, hml, hown, hts⟩ (c_X2_bare l x M cn gn dn pn hI.o) (cwV 0 hts gL_law_X2_bare rfl rfl rfl (by decide +kernel) ⟨Nat.le_of_ble_eq_true rfl, Nat.le_of_ble_eq_true rfl⟩) (g_preV hS hZ hP hV [] (id := 0) (by decide) rfl rfl) rfl rfl hl.1 rfl (lv_room (Nat.le_of_ble_eq_true rfl)) dL_law_772 ⟨by show 57 + 5 * k ≤ 634721; omega, by show 1400 + 30 * k ≤ 7191940; omega⟩) hV (fun H locs hP hV => ?_)
    refine lv_aload_n hx hb dL_law_775 rfl (lv_at hl 3 rfl) ?_
    refine g_call1 (va_runV (As := []) (rest := [.int (nI (bpO M cn cn))]) ⟨hx, hb, hml, hown, hts⟩ (k_X3_bare l x (M) cn gn dn pn  hI.m) (cwV 0 hts gL_law_X3_bare rfl rfl rfl (by decide +kernel) ⟨Nat.le_of_ble_eq_true rfl, Nat.le_of_ble_eq_true rfl⟩) (g_preV hS hZ hP hV [] (id := 38) (by decide) rfl rfl) rfl rfl hl.1 rfl (lv_room (Nat.le_of_ble_eq_true rfl)) dL_law_776 ⟨by show 57 + 5 * k + 0 ≤ 634721; omega, by show 1400 + 30 * k + 0 ≤ 7191940; omega⟩) hV (fun H locs hP hV => ?_)
    refine lv_icmp_eq (tgt := 1416) hx hb dL_law_779 (by decide) (fun c_1 => ?_) (fun c_1 => absurd hK1 c_1)
    exact W.widen (by omega) (by omega) (NX (mM_bare (M) cn gn dn pn ) cn gn dn pn hI1 H locs hP hV ls hl)
set_option maxHeartbeats 4000000 in
set_option maxRecDepth 100000 in
theorem law_ground {p : Program} {e : Env} {s : State} {m : MethodId} {below : List Frame} {meth : Method} {c : Code} {l : Launch} (hlf : l.stackTraces = false) {x : Cx} (hL : xL x ≤ 3584) (hx : p.tables.exec = Jvm.exec) (hb : c.code = cL_law) (hml : c.maxLocals = 7) (hown : s.vm.findClass RL = some m.cls) (hts : ∀ w ∈ wsL_law, w.before #[Value.ref (xb x)] s = true) (hS : GS x s) (hZ : GZ x s s.heap) {M : Nat → Nat → Int32} {cn gn dn k : Nat} {pn : Nat → Nat} (hI : Inv M cn gn dn pn) (hk : 7 * k + 7 ≤ xL x) (hk2 : k ≤ 512)
    (NX : ∀ (M1 : Nat → Nat → Int32) (cn1 gn1 dn1 : Nat) (pn1 : Nat → Nat), Inv M1 cn1 gn1 dn1 pn1 → ∀ (H : Heap) (locs : List Loc), va_P (xD x) vwCl (wAll x M1) H → va_S (gF x) s.heap H locs → ∀ ls : Array Slot, lv_has ls 7 [(4, .int (nI (7 * k))), (0, .ref (xb x)), (1, .ref (xa x 0)), (2, .ref (xa x 38)), (3, .ref (xa x 56))] → W p l e room_1 s m #[Value.ref (xb x)] below meth c H locs (57 + 5 * k + 5) (1400 + 30 * k + 30) (lw_Z below #[Value.ref (xb x)] s) (F0 m 1416 ls []))
    (H : Heap) (locs : List Loc) (hP : va_P (xD x) vwCl (wAll x M) H) (hV : va_S (gF x) s.heap H locs) (ls : Array Slot) (hl : lv_has ls 7 [(4, .int (nI (7 * k))), (0, .ref (xb x)), (1, .ref (xa x 0)), (2, .ref (xa x 38)), (3, .ref (xa x 56))]) : W p l e room_1 s m #[Value.ref (xb x)] below meth c H locs (57 + 5 * k) (1400 + 30 * k) (lw_Z below #[Value.ref (xb x)] s) (F0 m 784 ls []) := by
    have hst := st_ground hI (xX x (7 * k + 1)) (xX x (7 * k + 2)) (xX x (7 * k + 3)) (xX x (7 * k + 4)) (xX x (7 * k + 5)) (xX x (7 * k + 6))
    obtain ⟨hOM, hK1, hK2, cn1, gn1, dn1, pn1, hI1⟩ := hst
    have J_899 : ∀ (H : Heap) (locs : List Loc), va_P (xD x) vwCl (wAll x (mM_ground (oM_ground M cn gn dn pn (xX x (7 * k + 1)) (xX x (7 * k + 2)) (xX x (7 * k + 3)) (xX x (7 * k + 4)) (xX x (7 * k + 5)) (xX x (7 * k + 6))) cn gn dn pn (xX x (7 * k + 1)) (xX x (7 * k + 2)) (xX x (7 * k + 3)) (xX x (7 * k + 4)) (xX x (7 * k + 5)) (xX x (7 * k + 6)))) H → va_S (gF x) s.heap H locs → ∀ ls : Array Slot, lv_has ls 7 [(4, .int (nI (7 * k))), (0, .ref (xb x)), (1, .ref (xa x 0)), (2, .ref (xa x 38)), (3, .ref (xa x 56))] → W p l e room_1 s m #[Value.ref (xb x)] below meth c H locs (57 + 5 * k + 5) (1400 + 30 * k + 30) (lw_Z below #[Value.ref (xb x)] s) (F0 m 899 ls []) := by
      intro H locs hP hV ls hl
      refine lv_goto (tgt := 1416) hx hb dL_law_899 (by decide) ?_
      exact W.widen (by omega) (by omega) (NX _ cn1 gn1 dn1 pn1 hI1 H locs hP hV ls hl)
    refine lv_aload_n hx hb dL_law_784 rfl (lv_at hl 2 rfl) ?_
    refine lv_aload_n hx hb dL_law_785 rfl (lv_at hl 1 rfl) ?_
    refine lv_iload hx hb dL_law_786 (lv_at hl 0 rfl) ?_
    refine lv_iconst (v := 1) hx hb dL_law_788 (by decide) ?_
    refine h_iadd (v := nI (7 * k + 1)) hx hb dL_law_789 (nI_add (7 * k) 1) ?_
    refine g_sld (j := 7 * k + 1) hx hb hS hZ hV hL (by omega) dL_law_790 ?_
    refine lv_aload_n hx hb dL_law_791 rfl (lv_at hl 1 rfl) ?_
    refine lv_iload hx hb dL_law_792 (lv_at hl 0 rfl) ?_
    refine lv_iconst (v := 2) hx hb dL_law_794 (by decide) ?_
    refine h_iadd (v := nI (7 * k + 2)) hx hb dL_law_795 (nI_add (7 * k) 2) ?_
    refine g_sld (j := 7 * k + 2) hx hb hS hZ hV hL (by omega) dL_law_796 ?_
    refine lv_aload_n hx hb dL_law_797 rfl (lv_at hl 1 rfl) ?_
    refine lv_iload hx hb dL_law_798 (lv_at hl 0 rfl) ?_
    refine lv_iconst (v := 3) hx hb dL_law_800 (by decide) ?_
    refine h_iadd (v := nI (7 * k + 3)) hx hb dL_law_801 (nI_add (7 * k) 3) ?_
    refine g_sld (j := 7 * k + 3) hx hb hS hZ hV hL (by omega) dL_law_802 ?_
    refine lv_aload_n hx hb dL_law_803 rfl (lv_at hl 1 rfl) ?_
    refine lv_iload hx hb dL_law_804 (lv_at hl 0 rfl) ?_
    refine lv_iconst (v := 4) hx hb dL_law_806 (by decide) ?_
    refine h_iadd (v := nI (7 * k + 4)) hx hb dL_law_807 (nI_add (7 * k) 4) ?_
    refine g_sld (j := 7 * k + 4) hx hb hS hZ hV hL (by omega) dL_law_808 ?_
    refine lv_aload_n hx hb dL_law_809 rfl (lv_at hl 1 rfl) ?_
    refine lv_iload hx hb dL_law_810 (lv_at hl 0 rfl) ?_
    refine lv_iconst (v := 5) hx hb dL_law_812 (by decide) ?_
    refine h_iadd (v := nI (7 * k + 5)) hx hb dL_law_813 (nI_add (7 * k) 5) ?_
    refine g_sld (j := 7 * k + 5) hx hb hS hZ hV hL (by omega) dL_law_814 ?_
    refine lv_aload_n hx hb dL_law_815 rfl (lv_at hl 1 rfl) ?_
    refine lv_iload hx hb dL_law_816 (lv_at hl 0 rfl) ?_
    refine lv_bipush (v := 6) hx hb dL_law_818 (by decide) ?_
    refine h_iadd (v := nI (7 * k + 6)) hx hb dL_law_820 (nI_add (7 * k) 6) ?_
    refine g_sld (j := 7 * k + 6) hx hb hS hZ hV hL (by omega) dL_law_821 ?_
    refine lv_aload_n hx hb dL_law_822 rfl (lv_at hl 4 rfl) ?_
    refine g_call1 (vx_runSW (As := [.ref (xa x 0), .int (xX x (7 * k + 1)), .int (xX x (7 * k + 2)), .int (xX x (7 * k + 3)), .int (xX x (7 * k + 4)), .int (xX x (7 * k + 5)), .int (xX x (7 * k + 6)), .ref (xa x 56)]) (rest := []) ⟨hx, hb, hml, hown, hts⟩ (k_L_ground l hlf x M cn gn dn pn (xX x (7 * k + 1)) (xX x (7 * k + 2)) (xX x (7 * k + 3)) (xX x (7 * k + 4)) (xX x (7 * k + 5)) (xX x (7 * k + 6)) hI.o) (vx_cwSW 8 hts gL_law_L_ground rfl rfl rfl (by decide +kernel) ⟨Nat.le_of_ble_eq_true rfl, Nat.le_of_ble_eq_true rfl⟩) (g_preS hS hZ hP hV [.ref (xa x 0), .int (xX x (7 * k + 1)), .int (xX x (7 * k + 2)), .int (xX x (7 * k + 3)), .int (xX x (7 * k + 4)), .int (xX x (7 * k + 5)), .int (xX x (7 * k + 6)), .ref (xa x 56)]) rfl rfl hl.1 rfl (lv_room (Nat.le_of_ble_eq_true rfl)) dL_law_823 ⟨by show 57 + 5 * k + 5 ≤ 634721; omega, by show 1400 + 30 * k + 30 ≤ 7191940; omega⟩) hV (fun H locs hP hV => ?_)
    refine lv_istore (lv' := [(5, .int (oK_ground M cn gn dn pn (xX x (7 * k + 1)) (xX x (7 * k + 2)) (xX x (7 * k + 3)) (xX x (7 * k + 4)) (xX x (7 * k + 5)) (xX x (7 * k + 6)))), (4, .int (nI (7 * k))), (0, .ref (xb x)), (1, .ref (xa x 0)), (2, .ref (xa x 38)), (3, .ref (xa x 56))]) hx hb dL_law_826 hl (by decide) rfl (fun ls hl => ?_)
    refine lv_aload_n hx hb dL_law_828 rfl (lv_at hl 4 rfl) ?_
    refine lv_aload_n hx hb dL_law_829 rfl (lv_at hl 2 rfl) ?_
    refine lv_iload hx hb dL_law_830 (lv_at hl 1 rfl) ?_
    refine lv_iconst (v := 1) hx hb dL_law_832 (by decide) ?_
    refine h_iadd (v := nI (7 * k + 1)) hx hb dL_law_833 (nI_add (7 * k) 1) ?_
    refine g_sld (j := 7 * k + 1) hx hb hS hZ hV hL (by omega) dL_law_834 ?_
    refine lv_aload_n hx hb dL_law_835 rfl (lv_at hl 2 rfl) ?_
    refine lv_iload hx hb dL_law_836 (lv_at hl 1 rfl) ?_
    refine lv_iconst (v := 2) hx hb dL_law_838 (by decide) ?_
    refine h_iadd (v := nI (7 * k + 2)) hx hb dL_law_839 (nI_add (7 * k) 2) ?_
    refine g_sld (j := 7 * k + 2) hx hb hS hZ hV hL (by omega) dL_law_840 ?_
    refine lv_aload_n hx hb dL_law_841 rfl (lv_at hl 2 rfl) ?_
    refine lv_iload hx hb dL_law_842 (lv_at hl 1 rfl) ?_
    refine lv_iconst (v := 3) hx hb dL_law_844 (by decide) ?_
    refine h_iadd (v := nI (7 * k + 3)) hx hb dL_law_845 (nI_add (7 * k) 3) ?_
    refine g_sld (j := 7 * k + 3) hx hb hS hZ hV hL (by omega) dL_law_846 ?_
    refine lv_aload_n hx hb dL_law_847 rfl (lv_at hl 2 rfl) ?_
    refine lv_iload hx hb dL_law_848 (lv_at hl 1 rfl) ?_
    refine lv_iconst (v := 4) hx hb dL_law_850 (by decide) ?_
    refine h_iadd (v := nI (7 * k + 4)) hx hb dL_law_851 (nI_add (7 * k) 4) ?_
    refine g_sld (j := 7 * k + 4) hx hb hS hZ hV hL (by omega) dL_law_852 ?_
    refine lv_aload_n hx hb dL_law_853 rfl (lv_at hl 2 rfl) ?_
    refine lv_iload hx hb dL_law_854 (lv_at hl 1 rfl) ?_
    refine lv_iconst (v := 5) hx hb dL_law_856 (by decide) ?_
    refine h_iadd (v := nI (7 * k + 5)) hx hb dL_law_857 (nI_add (7 * k) 5) ?_
    refine g_sld (j := 7 * k + 5) hx hb hS hZ hV hL (by omega) dL_law_858 ?_
    refine lv_aload_n hx hb dL_law_859 rfl (lv_at hl 2 rfl) ?_
    refine lv_iload hx hb dL_law_860 (lv_at hl 1 rfl) ?_
    refine lv_bipush (v := 6) hx hb dL_law_862 (by decide) ?_
    refine h_iadd (v := nI (7 * k + 6)) hx hb dL_law_864 (nI_add (7 * k) 6) ?_
    refine g_sld (j := 7 * k + 6) hx hb hS hZ hV hL (by omega) dL_law_865 ?_
    refine g_call1 (va_runV (As := [.int (xX x (7 * k + 1)), .int (xX x (7 * k + 2)), .int (xX x (7 * k + 3)), .int (xX x (7 * k + 4)), .int (xX x (7 * k + 5)), .int (xX x (7 * k + 6))]) (rest := []) ⟨hx, hb, hml, hown, hts⟩ (k_X3_ground l x (oM_ground M cn gn dn pn (xX x (7 * k + 1)) (xX x (7 * k + 2)) (xX x (7 * k + 3)) (xX x (7 * k + 4)) (xX x (7 * k + 5)) (xX x (7 * k + 6))) cn gn dn pn (xX x (7 * k + 1)) (xX x (7 * k + 2)) (xX x (7 * k + 3)) (xX x (7 * k + 4)) (xX x (7 * k + 5)) (xX x (7 * k + 6)) hOM) (cwV 6 hts gL_law_X3_ground rfl rfl rfl (by decide +kernel) ⟨Nat.le_of_ble_eq_true rfl, Nat.le_of_ble_eq_true rfl⟩) (g_preV hS hZ hP hV [.int (xX x (7 * k + 1)), .int (xX x (7 * k + 2)), .int (xX x (7 * k + 3)), .int (xX x (7 * k + 4)), .int (xX x (7 * k + 5)), .int (xX x (7 * k + 6))] (id := 38) (by decide) rfl rfl) rfl rfl hl.1 rfl (lv_room (Nat.le_of_ble_eq_true rfl)) dL_law_866 ⟨by show 57 + 5 * k + 5 ≤ 634721; omega, by show 1400 + 30 * k + 30 ≤ 7191940; omega⟩) hV (fun H locs hP hV => ?_)
    refine lv_istore (lv' := [(6, .int (mV_ground (oM_ground M cn gn dn pn (xX x (7 * k + 1)) (xX x (7 * k + 2)) (xX x (7 * k + 3)) (xX x (7 * k + 4)) (xX x (7 * k + 5)) (xX x (7 * k + 6))) cn gn dn pn (xX x (7 * k + 1)) (xX x (7 * k + 2)) (xX x (7 * k + 3)) (xX x (7 * k + 4)) (xX x (7 * k + 5)) (xX x (7 * k + 6)))), (5, .int (oK_ground M cn gn dn pn (xX x (7 * k + 1)) (xX x (7 * k + 2)) (xX x (7 * k + 3)) (xX x (7 * k + 4)) (xX x (7 * k + 5)) (xX x (7 * k + 6)))), (4, .int (nI (7 * k))), (0, .ref (xb x)), (1, .ref (xa x 0)), (2, .ref (xa x 38)), (3, .ref (xa x 56))]) hx hb dL_law_869 hl (by decide) rfl (fun ls hl => ?_)
    refine lv_aload_n hx hb dL_law_871 rfl (lv_at hl 5 rfl) ?_
    refine g_call1 (va_runV (As := []) (rest := []) ⟨hx, hb, hml, hown, hts⟩ (c_X3_thrown l x (mM_ground (oM_ground M cn gn dn pn (xX x (7 * k + 1)) (xX x (7 * k + 2)) (xX x (7 * k + 3)) (xX x (7 * k + 4)) (xX x (7 * k + 5)) (xX x (7 * k + 6))) cn gn dn pn (xX x (7 * k + 1)) (xX x (7 * k + 2)) (xX x (7 * k + 3)) (xX x (7 * k + 4)) (xX x (7 * k + 5)) (xX x (7 * k + 6)))) (cwV 0 hts gL_law_X3_thrown rfl rfl rfl (by decide +kernel) ⟨Nat.le_of_ble_eq_true rfl, Nat.le_of_ble_eq_true rfl⟩) (g_preV hS hZ hP hV [] (id := 38) (by decide) rfl rfl) rfl rfl hl.1 rfl (lv_room (Nat.le_of_ble_eq_true rfl)) dL_law_872 ⟨by show 57 + 5 * k + 5 ≤ 634721; omega, by show 1400 + 30 * k + 30 ≤ 7191940; omega⟩) hV (fun H locs hP hV => ?_)
    refine lv_iload hx hb dL_law_875 (lv_at hl 1 rfl) ?_
    refine lv_icmp_eq (tgt := 882) hx hb dL_law_877 (by decide) (fun c_1 => ?_) (fun c_1 => absurd hK1 c_1)
    refine lv_iload hx hb dL_law_882 (lv_at hl 1 rfl) ?_
    refine lv_if_ne (tgt := 899) hx hb dL_law_884 (by decide) (fun c_2 => ?_) (fun c_2 => ?_)
    · exact J_899 H locs hP hV ls (lv_sub hl [2, 3, 4, 5, 6] rfl)
    refine lv_aload_n hx hb dL_law_887 rfl (lv_at hl 6 rfl) ?_
    refine lv_iconst (v := 0) hx hb dL_law_888 (by decide) ?_
    refine g_lald hx hb hS hP dL_law_889 ?_
    refine lv_iload hx hb dL_law_890 (lv_at hl 0 rfl) ?_
    refine lv_i2l (v := (mV_ground (oM_ground M cn gn dn pn (xX x (7 * k + 1)) (xX x (7 * k + 2)) (xX x (7 * k + 3)) (xX x (7 * k + 4)) (xX x (7 * k + 5)) (xX x (7 * k + 6))) cn gn dn pn (xX x (7 * k + 1)) (xX x (7 * k + 2)) (xX x (7 * k + 3)) (xX x (7 * k + 4)) (xX x (7 * k + 5)) (xX x (7 * k + 6))).toInt64) hx hb dL_law_892 rfl ?_
    refine W.lcmp hx hb dL_law_893 ?_
    refine lv_if_eq (tgt := 899) hx hb dL_law_894 (by decide) (fun c_3 => ?_) (fun c_3 => absurd (lcmp_s (hK2 c_2)) c_3)
    exact J_899 H locs hP hV ls (lv_sub hl [2, 3, 4, 5, 6] rfl)
set_option maxHeartbeats 4000000 in
set_option maxRecDepth 100000 in
theorem law_tell {p : Program} {e : Env} {s : State} {m : MethodId} {below : List Frame} {meth : Method} {c : Code} {l : Launch} (hlf : l.stackTraces = false) {x : Cx} (hL : xL x ≤ 3584) (hx : p.tables.exec = Jvm.exec) (hb : c.code = cL_law) (hml : c.maxLocals = 7) (hown : s.vm.findClass RL = some m.cls) (hts : ∀ w ∈ wsL_law, w.before #[Value.ref (xb x)] s = true) (hS : GS x s) (hZ : GZ x s s.heap) {M : Nat → Nat → Int32} {cn gn dn k : Nat} {pn : Nat → Nat} (hI : Inv M cn gn dn pn) (hk : 7 * k + 7 ≤ xL x) (hk2 : k ≤ 512)
    (NX : ∀ (M1 : Nat → Nat → Int32) (cn1 gn1 dn1 : Nat) (pn1 : Nat → Nat), Inv M1 cn1 gn1 dn1 pn1 → ∀ (H : Heap) (locs : List Loc), va_P (xD x) vwCl (wAll x M1) H → va_S (gF x) s.heap H locs → ∀ ls : Array Slot, lv_has ls 7 [(4, .int (nI (7 * k))), (0, .ref (xb x)), (1, .ref (xa x 0)), (2, .ref (xa x 38)), (3, .ref (xa x 56))] → W p l e room_1 s m #[Value.ref (xb x)] below meth c H locs (57 + 5 * k + 5) (1400 + 30 * k + 30) (lw_Z below #[Value.ref (xb x)] s) (F0 m 1416 ls []))
    (H : Heap) (locs : List Loc) (hP : va_P (xD x) vwCl (wAll x M) H) (hV : va_S (gF x) s.heap H locs) (ls : Array Slot) (hl : lv_has ls 7 [(4, .int (nI (7 * k))), (0, .ref (xb x)), (1, .ref (xa x 0)), (2, .ref (xa x 38)), (3, .ref (xa x 56))]) : W p l e room_1 s m #[Value.ref (xb x)] below meth c H locs (57 + 5 * k) (1400 + 30 * k) (lw_Z below #[Value.ref (xb x)] s) (F0 m 902 ls []) := by
    have hst := st_tell hI (xX x (7 * k + 1)) (xX x (7 * k + 2))
    obtain ⟨hOM, hK1, hK2, cn1, gn1, dn1, pn1, hI1⟩ := hst
    have J_967 : ∀ (H : Heap) (locs : List Loc), va_P (xD x) vwCl (wAll x (mM_tell (oM_tell M cn gn dn pn (xX x (7 * k + 1)) (xX x (7 * k + 2))) cn gn dn pn (xX x (7 * k + 1)) (xX x (7 * k + 2)))) H → va_S (gF x) s.heap H locs → ∀ ls : Array Slot, lv_has ls 7 [(4, .int (nI (7 * k))), (0, .ref (xb x)), (1, .ref (xa x 0)), (2, .ref (xa x 38)), (3, .ref (xa x 56))] → W p l e room_1 s m #[Value.ref (xb x)] below meth c H locs (57 + 5 * k + 3) (1400 + 30 * k + 18) (lw_Z below #[Value.ref (xb x)] s) (F0 m 967 ls []) := by
      intro H locs hP hV ls hl
      refine lv_goto (tgt := 1416) hx hb dL_law_967 (by decide) ?_
      exact W.widen (by omega) (by omega) (NX _ cn1 gn1 dn1 pn1 hI1 H locs hP hV ls hl)
    refine lv_aload_n hx hb dL_law_902 rfl (lv_at hl 2 rfl) ?_
    refine lv_aload_n hx hb dL_law_903 rfl (lv_at hl 1 rfl) ?_
    refine lv_iload hx hb dL_law_904 (lv_at hl 0 rfl) ?_
    refine lv_iconst (v := 1) hx hb dL_law_906 (by decide) ?_
    refine h_iadd (v := nI (7 * k + 1)) hx hb dL_law_907 (nI_add (7 * k) 1) ?_
    refine g_sld (j := 7 * k + 1) hx hb hS hZ hV hL (by omega) dL_law_908 ?_
    refine lv_aload_n hx hb dL_law_909 rfl (lv_at hl 1 rfl) ?_
    refine lv_iload hx hb dL_law_910 (lv_at hl 0 rfl) ?_
    refine lv_iconst (v := 2) hx hb dL_law_912 (by decide) ?_
    refine h_iadd (v := nI (7 * k + 2)) hx hb dL_law_913 (nI_add (7 * k) 2) ?_
    refine g_sld (j := 7 * k + 2) hx hb hS hZ hV hL (by omega) dL_law_914 ?_
    refine lv_aload_n hx hb dL_law_915 rfl (lv_at hl 4 rfl) ?_
    refine g_call1 (vx_runSW (As := [.ref (xa x 0), .int (xX x (7 * k + 1)), .int (xX x (7 * k + 2)), .ref (xa x 56)]) (rest := []) ⟨hx, hb, hml, hown, hts⟩ (k_L_tell l hlf x M cn gn dn pn (xX x (7 * k + 1)) (xX x (7 * k + 2)) hI.o) (vx_cwSW 4 hts gL_law_L_tell rfl rfl rfl (by decide +kernel) ⟨Nat.le_of_ble_eq_true rfl, Nat.le_of_ble_eq_true rfl⟩) (g_preS hS hZ hP hV [.ref (xa x 0), .int (xX x (7 * k + 1)), .int (xX x (7 * k + 2)), .ref (xa x 56)]) rfl rfl hl.1 rfl (lv_room (Nat.le_of_ble_eq_true rfl)) dL_law_916 ⟨by show 57 + 5 * k + 3 ≤ 634721; omega, by show 1400 + 30 * k + 18 ≤ 7191940; omega⟩) hV (fun H locs hP hV => ?_)
    refine lv_istore (lv' := [(5, .int (oK_tell M cn gn dn pn (xX x (7 * k + 1)) (xX x (7 * k + 2)))), (4, .int (nI (7 * k))), (0, .ref (xb x)), (1, .ref (xa x 0)), (2, .ref (xa x 38)), (3, .ref (xa x 56))]) hx hb dL_law_919 hl (by decide) rfl (fun ls hl => ?_)
    refine lv_aload_n hx hb dL_law_921 rfl (lv_at hl 4 rfl) ?_
    refine lv_aload_n hx hb dL_law_922 rfl (lv_at hl 2 rfl) ?_
    refine lv_iload hx hb dL_law_923 (lv_at hl 1 rfl) ?_
    refine lv_iconst (v := 1) hx hb dL_law_925 (by decide) ?_
    refine h_iadd (v := nI (7 * k + 1)) hx hb dL_law_926 (nI_add (7 * k) 1) ?_
    refine g_sld (j := 7 * k + 1) hx hb hS hZ hV hL (by omega) dL_law_927 ?_
    refine lv_aload_n hx hb dL_law_928 rfl (lv_at hl 2 rfl) ?_
    refine lv_iload hx hb dL_law_929 (lv_at hl 1 rfl) ?_
    refine lv_iconst (v := 2) hx hb dL_law_931 (by decide) ?_
    refine h_iadd (v := nI (7 * k + 2)) hx hb dL_law_932 (nI_add (7 * k) 2) ?_
    refine g_sld (j := 7 * k + 2) hx hb hS hZ hV hL (by omega) dL_law_933 ?_
    refine g_call1 (va_runV (As := [.int (xX x (7 * k + 1)), .int (xX x (7 * k + 2))]) (rest := []) ⟨hx, hb, hml, hown, hts⟩ (k_X3_tell l x (oM_tell M cn gn dn pn (xX x (7 * k + 1)) (xX x (7 * k + 2))) cn gn dn pn (xX x (7 * k + 1)) (xX x (7 * k + 2)) hOM) (cwV 2 hts gL_law_X3_tell rfl rfl rfl (by decide +kernel) ⟨Nat.le_of_ble_eq_true rfl, Nat.le_of_ble_eq_true rfl⟩) (g_preV hS hZ hP hV [.int (xX x (7 * k + 1)), .int (xX x (7 * k + 2))] (id := 38) (by decide) rfl rfl) rfl rfl hl.1 rfl (lv_room (Nat.le_of_ble_eq_true rfl)) dL_law_934 ⟨by show 57 + 5 * k + 3 ≤ 634721; omega, by show 1400 + 30 * k + 18 ≤ 7191940; omega⟩) hV (fun H locs hP hV => ?_)
    refine lv_istore (lv' := [(6, .int (mV_tell (oM_tell M cn gn dn pn (xX x (7 * k + 1)) (xX x (7 * k + 2))) cn gn dn pn (xX x (7 * k + 1)) (xX x (7 * k + 2)))), (5, .int (oK_tell M cn gn dn pn (xX x (7 * k + 1)) (xX x (7 * k + 2)))), (4, .int (nI (7 * k))), (0, .ref (xb x)), (1, .ref (xa x 0)), (2, .ref (xa x 38)), (3, .ref (xa x 56))]) hx hb dL_law_937 hl (by decide) rfl (fun ls hl => ?_)
    refine lv_aload_n hx hb dL_law_939 rfl (lv_at hl 5 rfl) ?_
    refine g_call1 (va_runV (As := []) (rest := []) ⟨hx, hb, hml, hown, hts⟩ (c_X3_thrown l x (mM_tell (oM_tell M cn gn dn pn (xX x (7 * k + 1)) (xX x (7 * k + 2))) cn gn dn pn (xX x (7 * k + 1)) (xX x (7 * k + 2)))) (cwV 0 hts gL_law_X3_thrown rfl rfl rfl (by decide +kernel) ⟨Nat.le_of_ble_eq_true rfl, Nat.le_of_ble_eq_true rfl⟩) (g_preV hS hZ hP hV [] (id := 38) (by decide) rfl rfl) rfl rfl hl.1 rfl (lv_room (Nat.le_of_ble_eq_true rfl)) dL_law_940 ⟨by show 57 + 5 * k + 3 ≤ 634721; omega, by show 1400 + 30 * k + 18 ≤ 7191940; omega⟩) hV (fun H locs hP hV => ?_)
    refine lv_iload hx hb dL_law_943 (lv_at hl 1 rfl) ?_
    refine lv_icmp_eq (tgt := 950) hx hb dL_law_945 (by decide) (fun c_1 => ?_) (fun c_1 => absurd hK1 c_1)
    refine lv_iload hx hb dL_law_950 (lv_at hl 1 rfl) ?_
    refine lv_if_ne (tgt := 967) hx hb dL_law_952 (by decide) (fun c_2 => ?_) (fun c_2 => ?_)
    · exact J_967 H locs hP hV ls (lv_sub hl [2, 3, 4, 5, 6] rfl)
    refine lv_aload_n hx hb dL_law_955 rfl (lv_at hl 6 rfl) ?_
    refine lv_iconst (v := 0) hx hb dL_law_956 (by decide) ?_
    refine g_lald hx hb hS hP dL_law_957 ?_
    refine lv_iload hx hb dL_law_958 (lv_at hl 0 rfl) ?_
    refine lv_i2l (v := (mV_tell (oM_tell M cn gn dn pn (xX x (7 * k + 1)) (xX x (7 * k + 2))) cn gn dn pn (xX x (7 * k + 1)) (xX x (7 * k + 2))).toInt64) hx hb dL_law_960 rfl ?_
    refine W.lcmp hx hb dL_law_961 ?_
    refine lv_if_eq (tgt := 967) hx hb dL_law_962 (by decide) (fun c_3 => ?_) (fun c_3 => absurd (lcmp_s (hK2 c_2)) c_3)
    exact J_967 H locs hP hV ls (lv_sub hl [2, 3, 4, 5, 6] rfl)
set_option maxHeartbeats 4000000 in
set_option maxRecDepth 100000 in
theorem law_isClosed {p : Program} {e : Env} {s : State} {m : MethodId} {below : List Frame} {meth : Method} {c : Code} {l : Launch} (hlf : l.stackTraces = false) {x : Cx} (hL : xL x ≤ 3584) (hx : p.tables.exec = Jvm.exec) (hb : c.code = cL_law) (hml : c.maxLocals = 7) (hown : s.vm.findClass RL = some m.cls) (hts : ∀ w ∈ wsL_law, w.before #[Value.ref (xb x)] s = true) (hS : GS x s) (hZ : GZ x s s.heap) {M : Nat → Nat → Int32} {cn gn dn k : Nat} {pn : Nat → Nat} (hI : Inv M cn gn dn pn) (hk : 7 * k + 7 ≤ xL x) (hk2 : k ≤ 512)
    (NX : ∀ (M1 : Nat → Nat → Int32) (cn1 gn1 dn1 : Nat) (pn1 : Nat → Nat), Inv M1 cn1 gn1 dn1 pn1 → ∀ (H : Heap) (locs : List Loc), va_P (xD x) vwCl (wAll x M1) H → va_S (gF x) s.heap H locs → ∀ ls : Array Slot, lv_has ls 7 [(4, .int (nI (7 * k))), (0, .ref (xb x)), (1, .ref (xa x 0)), (2, .ref (xa x 38)), (3, .ref (xa x 56))] → W p l e room_1 s m #[Value.ref (xb x)] below meth c H locs (57 + 5 * k + 5) (1400 + 30 * k + 30) (lw_Z below #[Value.ref (xb x)] s) (F0 m 1416 ls []))
    (H : Heap) (locs : List Loc) (hP : va_P (xD x) vwCl (wAll x M) H) (hV : va_S (gF x) s.heap H locs) (ls : Array Slot) (hl : lv_has ls 7 [(4, .int (nI (7 * k))), (0, .ref (xb x)), (1, .ref (xa x 0)), (2, .ref (xa x 38)), (3, .ref (xa x 56))]) : W p l e room_1 s m #[Value.ref (xb x)] below meth c H locs (57 + 5 * k) (1400 + 30 * k) (lw_Z below #[Value.ref (xb x)] s) (F0 m 970 ls []) := by
    have hst := st_isClosed hI (xX x (7 * k + 1)) (xX x (7 * k + 2))
    obtain ⟨hOM, hK1, hK2, hK3, cn1, gn1, dn1, pn1, hI1⟩ := hst
    have J_1042 : ∀ (H : Heap) (locs : List Loc), va_P (xD x) vwCl (wAll x (mM_isClosed (oM_isClosed M cn gn dn pn (xX x (7 * k + 1)) (xX x (7 * k + 2))) cn gn dn pn (xX x (7 * k + 1)) (xX x (7 * k + 2)))) H → va_S (gF x) s.heap H locs → ∀ ls : Array Slot, lv_has ls 7 [(4, .int (nI (7 * k))), (0, .ref (xb x)), (1, .ref (xa x 0)), (2, .ref (xa x 38)), (3, .ref (xa x 56))] → W p l e room_1 s m #[Value.ref (xb x)] below meth c H locs (57 + 5 * k + 2) (1400 + 30 * k + 12) (lw_Z below #[Value.ref (xb x)] s) (F0 m 1042 ls []) := by
      intro H locs hP hV ls hl
      refine lv_goto (tgt := 1416) hx hb dL_law_1042 (by decide) ?_
      exact W.widen (by omega) (by omega) (NX _ cn1 gn1 dn1 pn1 hI1 H locs hP hV ls hl)
    refine lv_aload_n hx hb dL_law_970 rfl (lv_at hl 2 rfl) ?_
    refine lv_aload_n hx hb dL_law_971 rfl (lv_at hl 1 rfl) ?_
    refine lv_iload hx hb dL_law_972 (lv_at hl 0 rfl) ?_
    refine lv_iconst (v := 1) hx hb dL_law_974 (by decide) ?_
    refine h_iadd (v := nI (7 * k + 1)) hx hb dL_law_975 (nI_add (7 * k) 1) ?_
    refine g_sld (j := 7 * k + 1) hx hb hS hZ hV hL (by omega) dL_law_976 ?_
    refine lv_aload_n hx hb dL_law_977 rfl (lv_at hl 1 rfl) ?_
    refine lv_iload hx hb dL_law_978 (lv_at hl 0 rfl) ?_
    refine lv_iconst (v := 2) hx hb dL_law_980 (by decide) ?_
    refine h_iadd (v := nI (7 * k + 2)) hx hb dL_law_981 (nI_add (7 * k) 2) ?_
    refine g_sld (j := 7 * k + 2) hx hb hS hZ hV hL (by omega) dL_law_982 ?_
    refine lv_aload_n hx hb dL_law_983 rfl (lv_at hl 4 rfl) ?_
    refine g_call1 (vx_runSW (As := [.ref (xa x 0), .int (xX x (7 * k + 1)), .int (xX x (7 * k + 2)), .ref (xa x 56)]) (rest := []) ⟨hx, hb, hml, hown, hts⟩ (k_L_isClosed l hlf x M cn gn dn pn (xX x (7 * k + 1)) (xX x (7 * k + 2)) hI.o) (vx_cwSW 4 hts gL_law_L_isClosed rfl rfl rfl (by decide +kernel) ⟨Nat.le_of_ble_eq_true rfl, Nat.le_of_ble_eq_true rfl⟩) (g_preS hS hZ hP hV [.ref (xa x 0), .int (xX x (7 * k + 1)), .int (xX x (7 * k + 2)), .ref (xa x 56)]) rfl rfl hl.1 rfl (lv_room (Nat.le_of_ble_eq_true rfl)) dL_law_984 ⟨by show 57 + 5 * k + 2 ≤ 634721; omega, by show 1400 + 30 * k + 12 ≤ 7191940; omega⟩) hV (fun H locs hP hV => ?_)
    refine lv_istore (lv' := [(5, .int (oK_isClosed M cn gn dn pn (xX x (7 * k + 1)) (xX x (7 * k + 2)))), (4, .int (nI (7 * k))), (0, .ref (xb x)), (1, .ref (xa x 0)), (2, .ref (xa x 38)), (3, .ref (xa x 56))]) hx hb dL_law_987 hl (by decide) rfl (fun ls hl => ?_)
    refine lv_aload_n hx hb dL_law_989 rfl (lv_at hl 4 rfl) ?_
    refine lv_aload_n hx hb dL_law_990 rfl (lv_at hl 2 rfl) ?_
    refine lv_iload hx hb dL_law_991 (lv_at hl 1 rfl) ?_
    refine lv_iconst (v := 1) hx hb dL_law_993 (by decide) ?_
    refine h_iadd (v := nI (7 * k + 1)) hx hb dL_law_994 (nI_add (7 * k) 1) ?_
    refine g_sld (j := 7 * k + 1) hx hb hS hZ hV hL (by omega) dL_law_995 ?_
    refine lv_aload_n hx hb dL_law_996 rfl (lv_at hl 2 rfl) ?_
    refine lv_iload hx hb dL_law_997 (lv_at hl 1 rfl) ?_
    refine lv_iconst (v := 2) hx hb dL_law_999 (by decide) ?_
    refine h_iadd (v := nI (7 * k + 2)) hx hb dL_law_1000 (nI_add (7 * k) 2) ?_
    refine g_sld (j := 7 * k + 2) hx hb hS hZ hV hL (by omega) dL_law_1001 ?_
    refine g_call1 (va_runV (As := [.int (xX x (7 * k + 1)), .int (xX x (7 * k + 2))]) (rest := []) ⟨hx, hb, hml, hown, hts⟩ (k_X3_isClosed l x (oM_isClosed M cn gn dn pn (xX x (7 * k + 1)) (xX x (7 * k + 2))) cn gn dn pn (xX x (7 * k + 1)) (xX x (7 * k + 2)) hOM) (cwV 2 hts gL_law_X3_isClosed rfl rfl rfl (by decide +kernel) ⟨Nat.le_of_ble_eq_true rfl, Nat.le_of_ble_eq_true rfl⟩) (g_preV hS hZ hP hV [.int (xX x (7 * k + 1)), .int (xX x (7 * k + 2))] (id := 38) (by decide) rfl rfl) rfl rfl hl.1 rfl (lv_room (Nat.le_of_ble_eq_true rfl)) dL_law_1002 ⟨by show 57 + 5 * k + 2 ≤ 634721; omega, by show 1400 + 30 * k + 12 ≤ 7191940; omega⟩) hV (fun H locs hP hV => ?_)
    refine lv_istore (lv' := [(6, .int (mV_isClosed (oM_isClosed M cn gn dn pn (xX x (7 * k + 1)) (xX x (7 * k + 2))) cn gn dn pn (xX x (7 * k + 1)) (xX x (7 * k + 2)))), (5, .int (oK_isClosed M cn gn dn pn (xX x (7 * k + 1)) (xX x (7 * k + 2)))), (4, .int (nI (7 * k))), (0, .ref (xb x)), (1, .ref (xa x 0)), (2, .ref (xa x 38)), (3, .ref (xa x 56))]) hx hb dL_law_1005 hl (by decide) rfl (fun ls hl => ?_)
    refine lv_aload_n hx hb dL_law_1007 rfl (lv_at hl 5 rfl) ?_
    refine g_call1 (va_runV (As := []) (rest := []) ⟨hx, hb, hml, hown, hts⟩ (c_X3_thrown l x (mM_isClosed (oM_isClosed M cn gn dn pn (xX x (7 * k + 1)) (xX x (7 * k + 2))) cn gn dn pn (xX x (7 * k + 1)) (xX x (7 * k + 2)))) (cwV 0 hts gL_law_X3_thrown rfl rfl rfl (by decide +kernel) ⟨Nat.le_of_ble_eq_true rfl, Nat.le_of_ble_eq_true rfl⟩) (g_preV hS hZ hP hV [] (id := 38) (by decide) rfl rfl) rfl rfl hl.1 rfl (lv_room (Nat.le_of_ble_eq_true rfl)) dL_law_1008 ⟨by show 57 + 5 * k + 2 ≤ 634721; omega, by show 1400 + 30 * k + 12 ≤ 7191940; omega⟩) hV (fun H locs hP hV => ?_)
    refine lv_iload hx hb dL_law_1011 (lv_at hl 1 rfl) ?_
    refine lv_icmp_eq (tgt := 1018) hx hb dL_law_1013 (by decide) (fun c_1 => ?_) (fun c_1 => absurd hK1 c_1)
    refine lv_iload hx hb dL_law_1018 (lv_at hl 1 rfl) ?_
    refine lv_if_ne (tgt := 1042) hx hb dL_law_1020 (by decide) (fun c_2 => ?_) (fun c_2 => ?_)
    · exact J_1042 H locs hP hV ls (lv_sub hl [2, 3, 4, 5, 6] rfl)
    refine lv_aload_n hx hb dL_law_1023 rfl (lv_at hl 6 rfl) ?_
    refine lv_iconst (v := 0) hx hb dL_law_1024 (by decide) ?_
    refine g_lald hx hb hS hP dL_law_1025 ?_
    refine lv_iload hx hb dL_law_1026 (lv_at hl 0 rfl) ?_
    refine lv_if_eq (tgt := 1035) hx hb dL_law_1028 (by decide) (fun c_3 => ?_) (fun c_3 => ?_)
    · -- no
      refine lv_lconst (v := 0) hx hb dL_law_1035 (by decide) ?_
      refine W.lcmp hx hb dL_law_1036 ?_
      refine lv_if_eq (tgt := 1042) hx hb dL_law_1037 (by decide) (fun c_9 => ?_) (fun c_9 => absurd (lcmp_z ((hK2 c_2).symm.trans c_3) rfl) c_9)
      exact J_1042 H locs hP hV ls (lv_sub hl [2, 3, 4, 5, 6] rfl)
    · -- yes
      refine lv_lconst (v := 1) hx hb dL_law_1031 (by decide) ?_
      refine lv_goto (tgt := 1036) hx hb dL_law_1032 (by decide) ?_
      refine W.lcmp hx hb dL_law_1036 ?_
      refine lv_if_eq (tgt := 1042) hx hb dL_law_1037 (by decide) (fun c_9 => ?_) (fun c_9 => absurd (lcmp_z ((hK2 c_2).symm.trans (hK3.resolve_left c_3)) rfl) c_9)
      exact J_1042 H locs hP hV ls (lv_sub hl [2, 3, 4, 5, 6] rfl)
set_option maxHeartbeats 4000000 in
set_option maxRecDepth 100000 in
theorem law_touches {p : Program} {e : Env} {s : State} {m : MethodId} {below : List Frame} {meth : Method} {c : Code} {l : Launch} (hlf : l.stackTraces = false) {x : Cx} (hL : xL x ≤ 3584) (hx : p.tables.exec = Jvm.exec) (hb : c.code = cL_law) (hml : c.maxLocals = 7) (hown : s.vm.findClass RL = some m.cls) (hts : ∀ w ∈ wsL_law, w.before #[Value.ref (xb x)] s = true) (hS : GS x s) (hZ : GZ x s s.heap) {M : Nat → Nat → Int32} {cn gn dn k : Nat} {pn : Nat → Nat} (hI : Inv M cn gn dn pn) (hk : 7 * k + 7 ≤ xL x) (hk2 : k ≤ 512)
    (NX : ∀ (M1 : Nat → Nat → Int32) (cn1 gn1 dn1 : Nat) (pn1 : Nat → Nat), Inv M1 cn1 gn1 dn1 pn1 → ∀ (H : Heap) (locs : List Loc), va_P (xD x) vwCl (wAll x M1) H → va_S (gF x) s.heap H locs → ∀ ls : Array Slot, lv_has ls 7 [(4, .int (nI (7 * k))), (0, .ref (xb x)), (1, .ref (xa x 0)), (2, .ref (xa x 38)), (3, .ref (xa x 56))] → W p l e room_1 s m #[Value.ref (xb x)] below meth c H locs (57 + 5 * k + 5) (1400 + 30 * k + 30) (lw_Z below #[Value.ref (xb x)] s) (F0 m 1416 ls []))
    (H : Heap) (locs : List Loc) (hP : va_P (xD x) vwCl (wAll x M) H) (hV : va_S (gF x) s.heap H locs) (ls : Array Slot) (hl : lv_has ls 7 [(4, .int (nI (7 * k))), (0, .ref (xb x)), (1, .ref (xa x 0)), (2, .ref (xa x 38)), (3, .ref (xa x 56))]) : W p l e room_1 s m #[Value.ref (xb x)] below meth c H locs (57 + 5 * k) (1400 + 30 * k) (lw_Z below #[Value.ref (xb x)] s) (F0 m 1045 ls []) := by
    have hst := st_touches hI (xX x (7 * k + 1)) (xX x (7 * k + 2)) (xX x (7 * k + 3))
    obtain ⟨hOM, hK1, hK2, hK3, cn1, gn1, dn1, pn1, hI1⟩ := hst
    have J_1129 : ∀ (H : Heap) (locs : List Loc), va_P (xD x) vwCl (wAll x (mM_touches (oM_touches M cn gn dn pn (xX x (7 * k + 1)) (xX x (7 * k + 2)) (xX x (7 * k + 3))) cn gn dn pn (xX x (7 * k + 1)) (xX x (7 * k + 2)) (xX x (7 * k + 3)))) H → va_S (gF x) s.heap H locs → ∀ ls : Array Slot, lv_has ls 7 [(4, .int (nI (7 * k))), (0, .ref (xb x)), (1, .ref (xa x 0)), (2, .ref (xa x 38)), (3, .ref (xa x 56))] → W p l e room_1 s m #[Value.ref (xb x)] below meth c H locs (57 + 5 * k + 3) (1400 + 30 * k + 18) (lw_Z below #[Value.ref (xb x)] s) (F0 m 1129 ls []) := by
      intro H locs hP hV ls hl
      refine lv_goto (tgt := 1416) hx hb dL_law_1129 (by decide) ?_
      exact W.widen (by omega) (by omega) (NX _ cn1 gn1 dn1 pn1 hI1 H locs hP hV ls hl)
    refine lv_aload_n hx hb dL_law_1045 rfl (lv_at hl 2 rfl) ?_
    refine lv_aload_n hx hb dL_law_1046 rfl (lv_at hl 1 rfl) ?_
    refine lv_iload hx hb dL_law_1047 (lv_at hl 0 rfl) ?_
    refine lv_iconst (v := 1) hx hb dL_law_1049 (by decide) ?_
    refine h_iadd (v := nI (7 * k + 1)) hx hb dL_law_1050 (nI_add (7 * k) 1) ?_
    refine g_sld (j := 7 * k + 1) hx hb hS hZ hV hL (by omega) dL_law_1051 ?_
    refine lv_aload_n hx hb dL_law_1052 rfl (lv_at hl 1 rfl) ?_
    refine lv_iload hx hb dL_law_1053 (lv_at hl 0 rfl) ?_
    refine lv_iconst (v := 2) hx hb dL_law_1055 (by decide) ?_
    refine h_iadd (v := nI (7 * k + 2)) hx hb dL_law_1056 (nI_add (7 * k) 2) ?_
    refine g_sld (j := 7 * k + 2) hx hb hS hZ hV hL (by omega) dL_law_1057 ?_
    refine lv_aload_n hx hb dL_law_1058 rfl (lv_at hl 1 rfl) ?_
    refine lv_iload hx hb dL_law_1059 (lv_at hl 0 rfl) ?_
    refine lv_iconst (v := 3) hx hb dL_law_1061 (by decide) ?_
    refine h_iadd (v := nI (7 * k + 3)) hx hb dL_law_1062 (nI_add (7 * k) 3) ?_
    refine g_sld (j := 7 * k + 3) hx hb hS hZ hV hL (by omega) dL_law_1063 ?_
    refine lv_aload_n hx hb dL_law_1064 rfl (lv_at hl 4 rfl) ?_
    refine g_call1 (vx_runSW (As := [.ref (xa x 0), .int (xX x (7 * k + 1)), .int (xX x (7 * k + 2)), .int (xX x (7 * k + 3)), .ref (xa x 56)]) (rest := []) ⟨hx, hb, hml, hown, hts⟩ (k_L_touches l hlf x M cn gn dn pn (xX x (7 * k + 1)) (xX x (7 * k + 2)) (xX x (7 * k + 3)) hI.o) (vx_cwSW 5 hts gL_law_L_touches rfl rfl rfl (by decide +kernel) ⟨Nat.le_of_ble_eq_true rfl, Nat.le_of_ble_eq_true rfl⟩) (g_preS hS hZ hP hV [.ref (xa x 0), .int (xX x (7 * k + 1)), .int (xX x (7 * k + 2)), .int (xX x (7 * k + 3)), .ref (xa x 56)]) rfl rfl hl.1 rfl (lv_room (Nat.le_of_ble_eq_true rfl)) dL_law_1065 ⟨by show 57 + 5 * k + 3 ≤ 634721; omega, by show 1400 + 30 * k + 18 ≤ 7191940; omega⟩) hV (fun H locs hP hV => ?_)
    refine lv_istore (lv' := [(5, .int (oK_touches M cn gn dn pn (xX x (7 * k + 1)) (xX x (7 * k + 2)) (xX x (7 * k + 3)))), (4, .int (nI (7 * k))), (0, .ref (xb x)), (1, .ref (xa x 0)), (2, .ref (xa x 38)), (3, .ref (xa x 56))]) hx hb dL_law_1068 hl (by decide) rfl (fun ls hl => ?_)
    refine lv_aload_n hx hb dL_law_1070 rfl (lv_at hl 4 rfl) ?_
    refine lv_aload_n hx hb dL_law_1071 rfl (lv_at hl 2 rfl) ?_
    refine lv_iload hx hb dL_law_1072 (lv_at hl 1 rfl) ?_
    refine lv_iconst (v := 1) hx hb dL_law_1074 (by decide) ?_
    refine h_iadd (v := nI (7 * k + 1)) hx hb dL_law_1075 (nI_add (7 * k) 1) ?_
    refine g_sld (j := 7 * k + 1) hx hb hS hZ hV hL (by omega) dL_law_1076 ?_
    refine lv_aload_n hx hb dL_law_1077 rfl (lv_at hl 2 rfl) ?_
    refine lv_iload hx hb dL_law_1078 (lv_at hl 1 rfl) ?_
    refine lv_iconst (v := 2) hx hb dL_law_1080 (by decide) ?_
    refine h_iadd (v := nI (7 * k + 2)) hx hb dL_law_1081 (nI_add (7 * k) 2) ?_
    refine g_sld (j := 7 * k + 2) hx hb hS hZ hV hL (by omega) dL_law_1082 ?_
    refine lv_aload_n hx hb dL_law_1083 rfl (lv_at hl 2 rfl) ?_
    refine lv_iload hx hb dL_law_1084 (lv_at hl 1 rfl) ?_
    refine lv_iconst (v := 3) hx hb dL_law_1086 (by decide) ?_
    refine h_iadd (v := nI (7 * k + 3)) hx hb dL_law_1087 (nI_add (7 * k) 3) ?_
    refine g_sld (j := 7 * k + 3) hx hb hS hZ hV hL (by omega) dL_law_1088 ?_
    refine g_call1 (va_runV (As := [.int (xX x (7 * k + 1)), .int (xX x (7 * k + 2)), .int (xX x (7 * k + 3))]) (rest := []) ⟨hx, hb, hml, hown, hts⟩ (k_X3_touches l x (oM_touches M cn gn dn pn (xX x (7 * k + 1)) (xX x (7 * k + 2)) (xX x (7 * k + 3))) cn gn dn pn (xX x (7 * k + 1)) (xX x (7 * k + 2)) (xX x (7 * k + 3)) hOM) (cwV 3 hts gL_law_X3_touches rfl rfl rfl (by decide +kernel) ⟨Nat.le_of_ble_eq_true rfl, Nat.le_of_ble_eq_true rfl⟩) (g_preV hS hZ hP hV [.int (xX x (7 * k + 1)), .int (xX x (7 * k + 2)), .int (xX x (7 * k + 3))] (id := 38) (by decide) rfl rfl) rfl rfl hl.1 rfl (lv_room (Nat.le_of_ble_eq_true rfl)) dL_law_1089 ⟨by show 57 + 5 * k + 3 ≤ 634721; omega, by show 1400 + 30 * k + 18 ≤ 7191940; omega⟩) hV (fun H locs hP hV => ?_)
    refine lv_istore (lv' := [(6, .int (mV_touches (oM_touches M cn gn dn pn (xX x (7 * k + 1)) (xX x (7 * k + 2)) (xX x (7 * k + 3))) cn gn dn pn (xX x (7 * k + 1)) (xX x (7 * k + 2)) (xX x (7 * k + 3)))), (5, .int (oK_touches M cn gn dn pn (xX x (7 * k + 1)) (xX x (7 * k + 2)) (xX x (7 * k + 3)))), (4, .int (nI (7 * k))), (0, .ref (xb x)), (1, .ref (xa x 0)), (2, .ref (xa x 38)), (3, .ref (xa x 56))]) hx hb dL_law_1092 hl (by decide) rfl (fun ls hl => ?_)
    refine lv_aload_n hx hb dL_law_1094 rfl (lv_at hl 5 rfl) ?_
    refine g_call1 (va_runV (As := []) (rest := []) ⟨hx, hb, hml, hown, hts⟩ (c_X3_thrown l x (mM_touches (oM_touches M cn gn dn pn (xX x (7 * k + 1)) (xX x (7 * k + 2)) (xX x (7 * k + 3))) cn gn dn pn (xX x (7 * k + 1)) (xX x (7 * k + 2)) (xX x (7 * k + 3)))) (cwV 0 hts gL_law_X3_thrown rfl rfl rfl (by decide +kernel) ⟨Nat.le_of_ble_eq_true rfl, Nat.le_of_ble_eq_true rfl⟩) (g_preV hS hZ hP hV [] (id := 38) (by decide) rfl rfl) rfl rfl hl.1 rfl (lv_room (Nat.le_of_ble_eq_true rfl)) dL_law_1095 ⟨by show 57 + 5 * k + 3 ≤ 634721; omega, by show 1400 + 30 * k + 18 ≤ 7191940; omega⟩) hV (fun H locs hP hV => ?_)
    refine lv_iload hx hb dL_law_1098 (lv_at hl 1 rfl) ?_
    refine lv_icmp_eq (tgt := 1105) hx hb dL_law_1100 (by decide) (fun c_1 => ?_) (fun c_1 => absurd hK1 c_1)
    refine lv_iload hx hb dL_law_1105 (lv_at hl 1 rfl) ?_
    refine lv_if_ne (tgt := 1129) hx hb dL_law_1107 (by decide) (fun c_2 => ?_) (fun c_2 => ?_)
    · exact J_1129 H locs hP hV ls (lv_sub hl [2, 3, 4, 5, 6] rfl)
    refine lv_aload_n hx hb dL_law_1110 rfl (lv_at hl 6 rfl) ?_
    refine lv_iconst (v := 0) hx hb dL_law_1111 (by decide) ?_
    refine g_lald hx hb hS hP dL_law_1112 ?_
    refine lv_iload hx hb dL_law_1113 (lv_at hl 0 rfl) ?_
    refine lv_if_eq (tgt := 1122) hx hb dL_law_1115 (by decide) (fun c_3 => ?_) (fun c_3 => ?_)
    · -- no
      refine lv_lconst (v := 0) hx hb dL_law_1122 (by decide) ?_
      refine W.lcmp hx hb dL_law_1123 ?_
      refine lv_if_eq (tgt := 1129) hx hb dL_law_1124 (by decide) (fun c_9 => ?_) (fun c_9 => absurd (lcmp_z ((hK2 c_2).symm.trans c_3) rfl) c_9)
      exact J_1129 H locs hP hV ls (lv_sub hl [2, 3, 4, 5, 6] rfl)
    · -- yes
      refine lv_lconst (v := 1) hx hb dL_law_1118 (by decide) ?_
      refine lv_goto (tgt := 1123) hx hb dL_law_1119 (by decide) ?_
      refine W.lcmp hx hb dL_law_1123 ?_
      refine lv_if_eq (tgt := 1129) hx hb dL_law_1124 (by decide) (fun c_9 => ?_) (fun c_9 => absurd (lcmp_z ((hK2 c_2).symm.trans (hK3.resolve_left c_3)) rfl) c_9)
      exact J_1129 H locs hP hV ls (lv_sub hl [2, 3, 4, 5, 6] rfl)
set_option maxHeartbeats 4000000 in
set_option maxRecDepth 100000 in
theorem law_lifted {p : Program} {e : Env} {s : State} {m : MethodId} {below : List Frame} {meth : Method} {c : Code} {l : Launch} (hlf : l.stackTraces = false) {x : Cx} (hL : xL x ≤ 3584) (hx : p.tables.exec = Jvm.exec) (hb : c.code = cL_law) (hml : c.maxLocals = 7) (hown : s.vm.findClass RL = some m.cls) (hts : ∀ w ∈ wsL_law, w.before #[Value.ref (xb x)] s = true) (hS : GS x s) (hZ : GZ x s s.heap) {M : Nat → Nat → Int32} {cn gn dn k : Nat} {pn : Nat → Nat} (hI : Inv M cn gn dn pn) (hk : 7 * k + 7 ≤ xL x) (hk2 : k ≤ 512)
    (NX : ∀ (M1 : Nat → Nat → Int32) (cn1 gn1 dn1 : Nat) (pn1 : Nat → Nat), Inv M1 cn1 gn1 dn1 pn1 → ∀ (H : Heap) (locs : List Loc), va_P (xD x) vwCl (wAll x M1) H → va_S (gF x) s.heap H locs → ∀ ls : Array Slot, lv_has ls 7 [(4, .int (nI (7 * k))), (0, .ref (xb x)), (1, .ref (xa x 0)), (2, .ref (xa x 38)), (3, .ref (xa x 56))] → W p l e room_1 s m #[Value.ref (xb x)] below meth c H locs (57 + 5 * k + 5) (1400 + 30 * k + 30) (lw_Z below #[Value.ref (xb x)] s) (F0 m 1416 ls []))
    (H : Heap) (locs : List Loc) (hP : va_P (xD x) vwCl (wAll x M) H) (hV : va_S (gF x) s.heap H locs) (ls : Array Slot) (hl : lv_has ls 7 [(4, .int (nI (7 * k))), (0, .ref (xb x)), (1, .ref (xa x 0)), (2, .ref (xa x 38)), (3, .ref (xa x 56))]) : W p l e room_1 s m #[Value.ref (xb x)] below meth c H locs (57 + 5 * k) (1400 + 30 * k) (lw_Z below #[Value.ref (xb x)] s) (F0 m 1132 ls []) := by
    have hst := st_lifted hI (xX x (7 * k + 1)) (xX x (7 * k + 2))
    obtain ⟨hOM, hK1, hK2, cn1, gn1, dn1, pn1, hI1⟩ := hst
    have J_1197 : ∀ (H : Heap) (locs : List Loc), va_P (xD x) vwCl (wAll x (mM_lifted (oM_lifted M cn gn dn pn (xX x (7 * k + 1)) (xX x (7 * k + 2))) cn gn dn pn (xX x (7 * k + 1)) (xX x (7 * k + 2)))) H → va_S (gF x) s.heap H locs → ∀ ls : Array Slot, lv_has ls 7 [(4, .int (nI (7 * k))), (0, .ref (xb x)), (1, .ref (xa x 0)), (2, .ref (xa x 38)), (3, .ref (xa x 56))] → W p l e room_1 s m #[Value.ref (xb x)] below meth c H locs (57 + 5 * k + 2) (1400 + 30 * k + 12) (lw_Z below #[Value.ref (xb x)] s) (F0 m 1197 ls []) := by
      intro H locs hP hV ls hl
      refine lv_goto (tgt := 1416) hx hb dL_law_1197 (by decide) ?_
      exact W.widen (by omega) (by omega) (NX _ cn1 gn1 dn1 pn1 hI1 H locs hP hV ls hl)
    refine lv_aload_n hx hb dL_law_1132 rfl (lv_at hl 2 rfl) ?_
    refine lv_aload_n hx hb dL_law_1133 rfl (lv_at hl 1 rfl) ?_
    refine lv_iload hx hb dL_law_1134 (lv_at hl 0 rfl) ?_
    refine lv_iconst (v := 1) hx hb dL_law_1136 (by decide) ?_
    refine h_iadd (v := nI (7 * k + 1)) hx hb dL_law_1137 (nI_add (7 * k) 1) ?_
    refine g_sld (j := 7 * k + 1) hx hb hS hZ hV hL (by omega) dL_law_1138 ?_
    refine lv_aload_n hx hb dL_law_1139 rfl (lv_at hl 1 rfl) ?_
    refine lv_iload hx hb dL_law_1140 (lv_at hl 0 rfl) ?_
    refine lv_iconst (v := 2) hx hb dL_law_1142 (by decide) ?_
    refine h_iadd (v := nI (7 * k + 2)) hx hb dL_law_1143 (nI_add (7 * k) 2) ?_
    refine g_sld (j := 7 * k + 2) hx hb hS hZ hV hL (by omega) dL_law_1144 ?_
    refine lv_aload_n hx hb dL_law_1145 rfl (lv_at hl 4 rfl) ?_
    refine g_call1 (vx_runSW (As := [.ref (xa x 0), .int (xX x (7 * k + 1)), .int (xX x (7 * k + 2)), .ref (xa x 56)]) (rest := []) ⟨hx, hb, hml, hown, hts⟩ (k_L_lifted l hlf x M cn gn dn pn (xX x (7 * k + 1)) (xX x (7 * k + 2)) hI.o) (vx_cwSW 4 hts gL_law_L_lifted rfl rfl rfl (by decide +kernel) ⟨Nat.le_of_ble_eq_true rfl, Nat.le_of_ble_eq_true rfl⟩) (g_preS hS hZ hP hV [.ref (xa x 0), .int (xX x (7 * k + 1)), .int (xX x (7 * k + 2)), .ref (xa x 56)]) rfl rfl hl.1 rfl (lv_room (Nat.le_of_ble_eq_true rfl)) dL_law_1146 ⟨by show 57 + 5 * k + 2 ≤ 634721; omega, by show 1400 + 30 * k + 12 ≤ 7191940; omega⟩) hV (fun H locs hP hV => ?_)
    refine lv_istore (lv' := [(5, .int (oK_lifted M cn gn dn pn (xX x (7 * k + 1)) (xX x (7 * k + 2)))), (4, .int (nI (7 * k))), (0, .ref (xb x)), (1, .ref (xa x 0)), (2, .ref (xa x 38)), (3, .ref (xa x 56))]) hx hb dL_law_1149 hl (by decide) rfl (fun ls hl => ?_)
    refine lv_aload_n hx hb dL_law_1151 rfl (lv_at hl 4 rfl) ?_
    refine lv_aload_n hx hb dL_law_1152 rfl (lv_at hl 2 rfl) ?_
    refine lv_iload hx hb dL_law_1153 (lv_at hl 1 rfl) ?_
    refine lv_iconst (v := 1) hx hb dL_law_1155 (by decide) ?_
    refine h_iadd (v := nI (7 * k + 1)) hx hb dL_law_1156 (nI_add (7 * k) 1) ?_
    refine g_sld (j := 7 * k + 1) hx hb hS hZ hV hL (by omega) dL_law_1157 ?_
    refine lv_aload_n hx hb dL_law_1158 rfl (lv_at hl 2 rfl) ?_
    refine lv_iload hx hb dL_law_1159 (lv_at hl 1 rfl) ?_
    refine lv_iconst (v := 2) hx hb dL_law_1161 (by decide) ?_
    refine h_iadd (v := nI (7 * k + 2)) hx hb dL_law_1162 (nI_add (7 * k) 2) ?_
    refine g_sld (j := 7 * k + 2) hx hb hS hZ hV hL (by omega) dL_law_1163 ?_
    refine g_call1 (va_runV (As := [.int (xX x (7 * k + 1)), .int (xX x (7 * k + 2))]) (rest := []) ⟨hx, hb, hml, hown, hts⟩ (k_X3_lifted l x (oM_lifted M cn gn dn pn (xX x (7 * k + 1)) (xX x (7 * k + 2))) cn gn dn pn (xX x (7 * k + 1)) (xX x (7 * k + 2)) hOM) (cwV 2 hts gL_law_X3_lifted rfl rfl rfl (by decide +kernel) ⟨Nat.le_of_ble_eq_true rfl, Nat.le_of_ble_eq_true rfl⟩) (g_preV hS hZ hP hV [.int (xX x (7 * k + 1)), .int (xX x (7 * k + 2))] (id := 38) (by decide) rfl rfl) rfl rfl hl.1 rfl (lv_room (Nat.le_of_ble_eq_true rfl)) dL_law_1164 ⟨by show 57 + 5 * k + 2 ≤ 634721; omega, by show 1400 + 30 * k + 12 ≤ 7191940; omega⟩) hV (fun H locs hP hV => ?_)
    refine lv_istore (lv' := [(6, .int (mV_lifted (oM_lifted M cn gn dn pn (xX x (7 * k + 1)) (xX x (7 * k + 2))) cn gn dn pn (xX x (7 * k + 1)) (xX x (7 * k + 2)))), (5, .int (oK_lifted M cn gn dn pn (xX x (7 * k + 1)) (xX x (7 * k + 2)))), (4, .int (nI (7 * k))), (0, .ref (xb x)), (1, .ref (xa x 0)), (2, .ref (xa x 38)), (3, .ref (xa x 56))]) hx hb dL_law_1167 hl (by decide) rfl (fun ls hl => ?_)
    refine lv_aload_n hx hb dL_law_1169 rfl (lv_at hl 5 rfl) ?_
    refine g_call1 (va_runV (As := []) (rest := []) ⟨hx, hb, hml, hown, hts⟩ (c_X3_thrown l x (mM_lifted (oM_lifted M cn gn dn pn (xX x (7 * k + 1)) (xX x (7 * k + 2))) cn gn dn pn (xX x (7 * k + 1)) (xX x (7 * k + 2)))) (cwV 0 hts gL_law_X3_thrown rfl rfl rfl (by decide +kernel) ⟨Nat.le_of_ble_eq_true rfl, Nat.le_of_ble_eq_true rfl⟩) (g_preV hS hZ hP hV [] (id := 38) (by decide) rfl rfl) rfl rfl hl.1 rfl (lv_room (Nat.le_of_ble_eq_true rfl)) dL_law_1170 ⟨by show 57 + 5 * k + 2 ≤ 634721; omega, by show 1400 + 30 * k + 12 ≤ 7191940; omega⟩) hV (fun H locs hP hV => ?_)
    refine lv_iload hx hb dL_law_1173 (lv_at hl 1 rfl) ?_
    refine lv_icmp_eq (tgt := 1180) hx hb dL_law_1175 (by decide) (fun c_1 => ?_) (fun c_1 => absurd hK1 c_1)
    refine lv_iload hx hb dL_law_1180 (lv_at hl 1 rfl) ?_
    refine lv_if_ne (tgt := 1197) hx hb dL_law_1182 (by decide) (fun c_2 => ?_) (fun c_2 => ?_)
    · exact J_1197 H locs hP hV ls (lv_sub hl [2, 3, 4, 5, 6] rfl)
    refine lv_aload_n hx hb dL_law_1185 rfl (lv_at hl 6 rfl) ?_
    refine lv_iconst (v := 0) hx hb dL_law_1186 (by decide) ?_
    refine g_lald hx hb hS hP dL_law_1187 ?_
    refine lv_iload hx hb dL_law_1188 (lv_at hl 0 rfl) ?_
    refine lv_i2l (v := (mV_lifted (oM_lifted M cn gn dn pn (xX x (7 * k + 1)) (xX x (7 * k + 2))) cn gn dn pn (xX x (7 * k + 1)) (xX x (7 * k + 2))).toInt64) hx hb dL_law_1190 rfl ?_
    refine W.lcmp hx hb dL_law_1191 ?_
    refine lv_if_eq (tgt := 1197) hx hb dL_law_1192 (by decide) (fun c_3 => ?_) (fun c_3 => absurd (lcmp_s (hK2 c_2)) c_3)
    exact J_1197 H locs hP hV ls (lv_sub hl [2, 3, 4, 5, 6] rfl)
set_option maxHeartbeats 4000000 in
set_option maxRecDepth 100000 in
theorem law_cost {p : Program} {e : Env} {s : State} {m : MethodId} {below : List Frame} {meth : Method} {c : Code} {l : Launch} (hlf : l.stackTraces = false) {x : Cx} (hL : xL x ≤ 3584) (hx : p.tables.exec = Jvm.exec) (hb : c.code = cL_law) (hml : c.maxLocals = 7) (hown : s.vm.findClass RL = some m.cls) (hts : ∀ w ∈ wsL_law, w.before #[Value.ref (xb x)] s = true) (hS : GS x s) (hZ : GZ x s s.heap) {M : Nat → Nat → Int32} {cn gn dn k : Nat} {pn : Nat → Nat} (hI : Inv M cn gn dn pn) (hk : 7 * k + 7 ≤ xL x) (hk2 : k ≤ 512)
    (NX : ∀ (M1 : Nat → Nat → Int32) (cn1 gn1 dn1 : Nat) (pn1 : Nat → Nat), Inv M1 cn1 gn1 dn1 pn1 → ∀ (H : Heap) (locs : List Loc), va_P (xD x) vwCl (wAll x M1) H → va_S (gF x) s.heap H locs → ∀ ls : Array Slot, lv_has ls 7 [(4, .int (nI (7 * k))), (0, .ref (xb x)), (1, .ref (xa x 0)), (2, .ref (xa x 38)), (3, .ref (xa x 56))] → W p l e room_1 s m #[Value.ref (xb x)] below meth c H locs (57 + 5 * k + 5) (1400 + 30 * k + 30) (lw_Z below #[Value.ref (xb x)] s) (F0 m 1416 ls []))
    (H : Heap) (locs : List Loc) (hP : va_P (xD x) vwCl (wAll x M) H) (hV : va_S (gF x) s.heap H locs) (ls : Array Slot) (hl : lv_has ls 7 [(4, .int (nI (7 * k))), (0, .ref (xb x)), (1, .ref (xa x 0)), (2, .ref (xa x 38)), (3, .ref (xa x 56))]) : W p l e room_1 s m #[Value.ref (xb x)] below meth c H locs (57 + 5 * k) (1400 + 30 * k) (lw_Z below #[Value.ref (xb x)] s) (F0 m 1200 ls []) := by
    have hst := st_cost hI (xX x (7 * k + 1)) (xX x (7 * k + 2)) (xX x (7 * k + 3))
    obtain ⟨hOM, hK1, hK2, cn1, gn1, dn1, pn1, hI1⟩ := hst
    have J_1277 : ∀ (H : Heap) (locs : List Loc), va_P (xD x) vwCl (wAll x (mM_cost (oM_cost M cn gn dn pn (xX x (7 * k + 1)) (xX x (7 * k + 2)) (xX x (7 * k + 3))) cn gn dn pn (xX x (7 * k + 1)) (xX x (7 * k + 2)) (xX x (7 * k + 3)))) H → va_S (gF x) s.heap H locs → ∀ ls : Array Slot, lv_has ls 7 [(4, .int (nI (7 * k))), (0, .ref (xb x)), (1, .ref (xa x 0)), (2, .ref (xa x 38)), (3, .ref (xa x 56))] → W p l e room_1 s m #[Value.ref (xb x)] below meth c H locs (57 + 5 * k + 3) (1400 + 30 * k + 18) (lw_Z below #[Value.ref (xb x)] s) (F0 m 1277 ls []) := by
      intro H locs hP hV ls hl
      refine lv_goto (tgt := 1416) hx hb dL_law_1277 (by decide) ?_
      exact W.widen (by omega) (by omega) (NX _ cn1 gn1 dn1 pn1 hI1 H locs hP hV ls hl)
    refine lv_aload_n hx hb dL_law_1200 rfl (lv_at hl 2 rfl) ?_
    refine lv_aload_n hx hb dL_law_1201 rfl (lv_at hl 1 rfl) ?_
    refine lv_iload hx hb dL_law_1202 (lv_at hl 0 rfl) ?_
    refine lv_iconst (v := 1) hx hb dL_law_1204 (by decide) ?_
    refine h_iadd (v := nI (7 * k + 1)) hx hb dL_law_1205 (nI_add (7 * k) 1) ?_
    refine g_sld (j := 7 * k + 1) hx hb hS hZ hV hL (by omega) dL_law_1206 ?_
    refine lv_aload_n hx hb dL_law_1207 rfl (lv_at hl 1 rfl) ?_
    refine lv_iload hx hb dL_law_1208 (lv_at hl 0 rfl) ?_
    refine lv_iconst (v := 2) hx hb dL_law_1210 (by decide) ?_
    refine h_iadd (v := nI (7 * k + 2)) hx hb dL_law_1211 (nI_add (7 * k) 2) ?_
    refine g_sld (j := 7 * k + 2) hx hb hS hZ hV hL (by omega) dL_law_1212 ?_
    refine lv_aload_n hx hb dL_law_1213 rfl (lv_at hl 1 rfl) ?_
    refine lv_iload hx hb dL_law_1214 (lv_at hl 0 rfl) ?_
    refine lv_iconst (v := 3) hx hb dL_law_1216 (by decide) ?_
    refine h_iadd (v := nI (7 * k + 3)) hx hb dL_law_1217 (nI_add (7 * k) 3) ?_
    refine g_sld (j := 7 * k + 3) hx hb hS hZ hV hL (by omega) dL_law_1218 ?_
    refine lv_aload_n hx hb dL_law_1219 rfl (lv_at hl 4 rfl) ?_
    refine g_call1 (vx_runSW (As := [.ref (xa x 0), .int (xX x (7 * k + 1)), .int (xX x (7 * k + 2)), .int (xX x (7 * k + 3)), .ref (xa x 56)]) (rest := []) ⟨hx, hb, hml, hown, hts⟩ (k_L_cost l hlf x M cn gn dn pn (xX x (7 * k + 1)) (xX x (7 * k + 2)) (xX x (7 * k + 3)) hI.o) (vx_cwSW 5 hts gL_law_L_cost rfl rfl rfl (by decide +kernel) ⟨Nat.le_of_ble_eq_true rfl, Nat.le_of_ble_eq_true rfl⟩) (g_preS hS hZ hP hV [.ref (xa x 0), .int (xX x (7 * k + 1)), .int (xX x (7 * k + 2)), .int (xX x (7 * k + 3)), .ref (xa x 56)]) rfl rfl hl.1 rfl (lv_room (Nat.le_of_ble_eq_true rfl)) dL_law_1220 ⟨by show 57 + 5 * k + 3 ≤ 634721; omega, by show 1400 + 30 * k + 18 ≤ 7191940; omega⟩) hV (fun H locs hP hV => ?_)
    refine lv_istore (lv' := [(5, .int (oK_cost M cn gn dn pn (xX x (7 * k + 1)) (xX x (7 * k + 2)) (xX x (7 * k + 3)))), (4, .int (nI (7 * k))), (0, .ref (xb x)), (1, .ref (xa x 0)), (2, .ref (xa x 38)), (3, .ref (xa x 56))]) hx hb dL_law_1223 hl (by decide) rfl (fun ls hl => ?_)
    refine lv_aload_n hx hb dL_law_1225 rfl (lv_at hl 4 rfl) ?_
    refine lv_aload_n hx hb dL_law_1226 rfl (lv_at hl 2 rfl) ?_
    refine lv_iload hx hb dL_law_1227 (lv_at hl 1 rfl) ?_
    refine lv_iconst (v := 1) hx hb dL_law_1229 (by decide) ?_
    refine h_iadd (v := nI (7 * k + 1)) hx hb dL_law_1230 (nI_add (7 * k) 1) ?_
    refine g_sld (j := 7 * k + 1) hx hb hS hZ hV hL (by omega) dL_law_1231 ?_
    refine lv_aload_n hx hb dL_law_1232 rfl (lv_at hl 2 rfl) ?_
    refine lv_iload hx hb dL_law_1233 (lv_at hl 1 rfl) ?_
    refine lv_iconst (v := 2) hx hb dL_law_1235 (by decide) ?_
    refine h_iadd (v := nI (7 * k + 2)) hx hb dL_law_1236 (nI_add (7 * k) 2) ?_
    refine g_sld (j := 7 * k + 2) hx hb hS hZ hV hL (by omega) dL_law_1237 ?_
    refine lv_aload_n hx hb dL_law_1238 rfl (lv_at hl 2 rfl) ?_
    refine lv_iload hx hb dL_law_1239 (lv_at hl 1 rfl) ?_
    refine lv_iconst (v := 3) hx hb dL_law_1241 (by decide) ?_
    refine h_iadd (v := nI (7 * k + 3)) hx hb dL_law_1242 (nI_add (7 * k) 3) ?_
    refine g_sld (j := 7 * k + 3) hx hb hS hZ hV hL (by omega) dL_law_1243 ?_
    refine g_call1 (va_runV (As := [.int (xX x (7 * k + 1)), .int (xX x (7 * k + 2)), .int (xX x (7 * k + 3))]) (rest := []) ⟨hx, hb, hml, hown, hts⟩ (k_X3_cost l x (oM_cost M cn gn dn pn (xX x (7 * k + 1)) (xX x (7 * k + 2)) (xX x (7 * k + 3))) cn gn dn pn (xX x (7 * k + 1)) (xX x (7 * k + 2)) (xX x (7 * k + 3)) hOM) (cwV 3 hts gL_law_X3_cost rfl rfl rfl (by decide +kernel) ⟨Nat.le_of_ble_eq_true rfl, Nat.le_of_ble_eq_true rfl⟩) (g_preV hS hZ hP hV [.int (xX x (7 * k + 1)), .int (xX x (7 * k + 2)), .int (xX x (7 * k + 3))] (id := 38) (by decide) rfl rfl) rfl rfl hl.1 rfl (lv_room (Nat.le_of_ble_eq_true rfl)) dL_law_1244 ⟨by show 57 + 5 * k + 3 ≤ 634721; omega, by show 1400 + 30 * k + 18 ≤ 7191940; omega⟩) hV (fun H locs hP hV => ?_)
    refine lv_istore (lv' := [(6, .int (mV_cost (oM_cost M cn gn dn pn (xX x (7 * k + 1)) (xX x (7 * k + 2)) (xX x (7 * k + 3))) cn gn dn pn (xX x (7 * k + 1)) (xX x (7 * k + 2)) (xX x (7 * k + 3)))), (5, .int (oK_cost M cn gn dn pn (xX x (7 * k + 1)) (xX x (7 * k + 2)) (xX x (7 * k + 3)))), (4, .int (nI (7 * k))), (0, .ref (xb x)), (1, .ref (xa x 0)), (2, .ref (xa x 38)), (3, .ref (xa x 56))]) hx hb dL_law_1247 hl (by decide) rfl (fun ls hl => ?_)
    refine lv_aload_n hx hb dL_law_1249 rfl (lv_at hl 5 rfl) ?_
    refine g_call1 (va_runV (As := []) (rest := []) ⟨hx, hb, hml, hown, hts⟩ (c_X3_thrown l x (mM_cost (oM_cost M cn gn dn pn (xX x (7 * k + 1)) (xX x (7 * k + 2)) (xX x (7 * k + 3))) cn gn dn pn (xX x (7 * k + 1)) (xX x (7 * k + 2)) (xX x (7 * k + 3)))) (cwV 0 hts gL_law_X3_thrown rfl rfl rfl (by decide +kernel) ⟨Nat.le_of_ble_eq_true rfl, Nat.le_of_ble_eq_true rfl⟩) (g_preV hS hZ hP hV [] (id := 38) (by decide) rfl rfl) rfl rfl hl.1 rfl (lv_room (Nat.le_of_ble_eq_true rfl)) dL_law_1250 ⟨by show 57 + 5 * k + 3 ≤ 634721; omega, by show 1400 + 30 * k + 18 ≤ 7191940; omega⟩) hV (fun H locs hP hV => ?_)
    refine lv_iload hx hb dL_law_1253 (lv_at hl 1 rfl) ?_
    refine lv_icmp_eq (tgt := 1260) hx hb dL_law_1255 (by decide) (fun c_1 => ?_) (fun c_1 => absurd hK1 c_1)
    refine lv_iload hx hb dL_law_1260 (lv_at hl 1 rfl) ?_
    refine lv_if_ne (tgt := 1277) hx hb dL_law_1262 (by decide) (fun c_2 => ?_) (fun c_2 => ?_)
    · exact J_1277 H locs hP hV ls (lv_sub hl [2, 3, 4, 5, 6] rfl)
    refine lv_aload_n hx hb dL_law_1265 rfl (lv_at hl 6 rfl) ?_
    refine lv_iconst (v := 0) hx hb dL_law_1266 (by decide) ?_
    refine g_lald hx hb hS hP dL_law_1267 ?_
    refine lv_iload hx hb dL_law_1268 (lv_at hl 0 rfl) ?_
    refine lv_i2l (v := (mV_cost (oM_cost M cn gn dn pn (xX x (7 * k + 1)) (xX x (7 * k + 2)) (xX x (7 * k + 3))) cn gn dn pn (xX x (7 * k + 1)) (xX x (7 * k + 2)) (xX x (7 * k + 3))).toInt64) hx hb dL_law_1270 rfl ?_
    refine W.lcmp hx hb dL_law_1271 ?_
    refine lv_if_eq (tgt := 1277) hx hb dL_law_1272 (by decide) (fun c_3 => ?_) (fun c_3 => absurd (lcmp_s (hK2 c_2)) c_3)
    exact J_1277 H locs hP hV ls (lv_sub hl [2, 3, 4, 5, 6] rfl)
set_option maxHeartbeats 4000000 in
set_option maxRecDepth 100000 in
theorem law_repair {p : Program} {e : Env} {s : State} {m : MethodId} {below : List Frame} {meth : Method} {c : Code} {l : Launch} (hlf : l.stackTraces = false) {x : Cx} (hL : xL x ≤ 3584) (hx : p.tables.exec = Jvm.exec) (hb : c.code = cL_law) (hml : c.maxLocals = 7) (hown : s.vm.findClass RL = some m.cls) (hts : ∀ w ∈ wsL_law, w.before #[Value.ref (xb x)] s = true) (hS : GS x s) (hZ : GZ x s s.heap) {M : Nat → Nat → Int32} {cn gn dn k : Nat} {pn : Nat → Nat} (hI : Inv M cn gn dn pn) (hk : 7 * k + 7 ≤ xL x) (hk2 : k ≤ 512)
    (NX : ∀ (M1 : Nat → Nat → Int32) (cn1 gn1 dn1 : Nat) (pn1 : Nat → Nat), Inv M1 cn1 gn1 dn1 pn1 → ∀ (H : Heap) (locs : List Loc), va_P (xD x) vwCl (wAll x M1) H → va_S (gF x) s.heap H locs → ∀ ls : Array Slot, lv_has ls 7 [(4, .int (nI (7 * k))), (0, .ref (xb x)), (1, .ref (xa x 0)), (2, .ref (xa x 38)), (3, .ref (xa x 56))] → W p l e room_1 s m #[Value.ref (xb x)] below meth c H locs (57 + 5 * k + 5) (1400 + 30 * k + 30) (lw_Z below #[Value.ref (xb x)] s) (F0 m 1416 ls []))
    (H : Heap) (locs : List Loc) (hP : va_P (xD x) vwCl (wAll x M) H) (hV : va_S (gF x) s.heap H locs) (ls : Array Slot) (hl : lv_has ls 7 [(4, .int (nI (7 * k))), (0, .ref (xb x)), (1, .ref (xa x 0)), (2, .ref (xa x 38)), (3, .ref (xa x 56))]) : W p l e room_1 s m #[Value.ref (xb x)] below meth c H locs (57 + 5 * k) (1400 + 30 * k) (lw_Z below #[Value.ref (xb x)] s) (F0 m 1280 ls []) := by
    have hst := st_repair hI (xX x (7 * k + 1)) (xX x (7 * k + 2)) (xX x (7 * k + 3))
    obtain ⟨hOM, hK1, hK2, cn1, gn1, dn1, pn1, hI1⟩ := hst
    have J_1357 : ∀ (H : Heap) (locs : List Loc), va_P (xD x) vwCl (wAll x (mM_repair (oM_repair M cn gn dn pn (xX x (7 * k + 1)) (xX x (7 * k + 2)) (xX x (7 * k + 3))) cn gn dn pn (xX x (7 * k + 1)) (xX x (7 * k + 2)) (xX x (7 * k + 3)))) H → va_S (gF x) s.heap H locs → ∀ ls : Array Slot, lv_has ls 7 [(4, .int (nI (7 * k))), (0, .ref (xb x)), (1, .ref (xa x 0)), (2, .ref (xa x 38)), (3, .ref (xa x 56))] → W p l e room_1 s m #[Value.ref (xb x)] below meth c H locs (57 + 5 * k + 4) (1400 + 30 * k + 24) (lw_Z below #[Value.ref (xb x)] s) (F0 m 1357 ls []) := by
      intro H locs hP hV ls hl
      refine lv_goto (tgt := 1416) hx hb dL_law_1357 (by decide) ?_
      exact W.widen (by omega) (by omega) (NX _ cn1 gn1 dn1 pn1 hI1 H locs hP hV ls hl)
    refine lv_aload_n hx hb dL_law_1280 rfl (lv_at hl 2 rfl) ?_
    refine lv_aload_n hx hb dL_law_1281 rfl (lv_at hl 1 rfl) ?_
    refine lv_iload hx hb dL_law_1282 (lv_at hl 0 rfl) ?_
    refine lv_iconst (v := 1) hx hb dL_law_1284 (by decide) ?_
    refine h_iadd (v := nI (7 * k + 1)) hx hb dL_law_1285 (nI_add (7 * k) 1) ?_
    refine g_sld (j := 7 * k + 1) hx hb hS hZ hV hL (by omega) dL_law_1286 ?_
    refine lv_aload_n hx hb dL_law_1287 rfl (lv_at hl 1 rfl) ?_
    refine lv_iload hx hb dL_law_1288 (lv_at hl 0 rfl) ?_
    refine lv_iconst (v := 2) hx hb dL_law_1290 (by decide) ?_
    refine h_iadd (v := nI (7 * k + 2)) hx hb dL_law_1291 (nI_add (7 * k) 2) ?_
    refine g_sld (j := 7 * k + 2) hx hb hS hZ hV hL (by omega) dL_law_1292 ?_
    refine lv_aload_n hx hb dL_law_1293 rfl (lv_at hl 1 rfl) ?_
    refine lv_iload hx hb dL_law_1294 (lv_at hl 0 rfl) ?_
    refine lv_iconst (v := 3) hx hb dL_law_1296 (by decide) ?_
    refine h_iadd (v := nI (7 * k + 3)) hx hb dL_law_1297 (nI_add (7 * k) 3) ?_
    refine g_sld (j := 7 * k + 3) hx hb hS hZ hV hL (by omega) dL_law_1298 ?_
    refine lv_aload_n hx hb dL_law_1299 rfl (lv_at hl 4 rfl) ?_
    refine g_call1 (vx_runSW (As := [.ref (xa x 0), .int (xX x (7 * k + 1)), .int (xX x (7 * k + 2)), .int (xX x (7 * k + 3)), .ref (xa x 56)]) (rest := []) ⟨hx, hb, hml, hown, hts⟩ (k_L_repair l hlf x M cn gn dn pn (xX x (7 * k + 1)) (xX x (7 * k + 2)) (xX x (7 * k + 3)) hI.o) (vx_cwSW 5 hts gL_law_L_repair rfl rfl rfl (by decide +kernel) ⟨Nat.le_of_ble_eq_true rfl, Nat.le_of_ble_eq_true rfl⟩) (g_preS hS hZ hP hV [.ref (xa x 0), .int (xX x (7 * k + 1)), .int (xX x (7 * k + 2)), .int (xX x (7 * k + 3)), .ref (xa x 56)]) rfl rfl hl.1 rfl (lv_room (Nat.le_of_ble_eq_true rfl)) dL_law_1300 ⟨by show 57 + 5 * k + 4 ≤ 634721; omega, by show 1400 + 30 * k + 24 ≤ 7191940; omega⟩) hV (fun H locs hP hV => ?_)
    refine lv_istore (lv' := [(5, .int (oK_repair M cn gn dn pn (xX x (7 * k + 1)) (xX x (7 * k + 2)) (xX x (7 * k + 3)))), (4, .int (nI (7 * k))), (0, .ref (xb x)), (1, .ref (xa x 0)), (2, .ref (xa x 38)), (3, .ref (xa x 56))]) hx hb dL_law_1303 hl (by decide) rfl (fun ls hl => ?_)
    refine lv_aload_n hx hb dL_law_1305 rfl (lv_at hl 4 rfl) ?_
    refine lv_aload_n hx hb dL_law_1306 rfl (lv_at hl 2 rfl) ?_
    refine lv_iload hx hb dL_law_1307 (lv_at hl 1 rfl) ?_
    refine lv_iconst (v := 1) hx hb dL_law_1309 (by decide) ?_
    refine h_iadd (v := nI (7 * k + 1)) hx hb dL_law_1310 (nI_add (7 * k) 1) ?_
    refine g_sld (j := 7 * k + 1) hx hb hS hZ hV hL (by omega) dL_law_1311 ?_
    refine lv_aload_n hx hb dL_law_1312 rfl (lv_at hl 2 rfl) ?_
    refine lv_iload hx hb dL_law_1313 (lv_at hl 1 rfl) ?_
    refine lv_iconst (v := 2) hx hb dL_law_1315 (by decide) ?_
    refine h_iadd (v := nI (7 * k + 2)) hx hb dL_law_1316 (nI_add (7 * k) 2) ?_
    refine g_sld (j := 7 * k + 2) hx hb hS hZ hV hL (by omega) dL_law_1317 ?_
    refine lv_aload_n hx hb dL_law_1318 rfl (lv_at hl 2 rfl) ?_
    refine lv_iload hx hb dL_law_1319 (lv_at hl 1 rfl) ?_
    refine lv_iconst (v := 3) hx hb dL_law_1321 (by decide) ?_
    refine h_iadd (v := nI (7 * k + 3)) hx hb dL_law_1322 (nI_add (7 * k) 3) ?_
    refine g_sld (j := 7 * k + 3) hx hb hS hZ hV hL (by omega) dL_law_1323 ?_
    refine g_call1 (va_runV (As := [.int (xX x (7 * k + 1)), .int (xX x (7 * k + 2)), .int (xX x (7 * k + 3))]) (rest := []) ⟨hx, hb, hml, hown, hts⟩ (k_X3_repair l x (oM_repair M cn gn dn pn (xX x (7 * k + 1)) (xX x (7 * k + 2)) (xX x (7 * k + 3))) cn gn dn pn (xX x (7 * k + 1)) (xX x (7 * k + 2)) (xX x (7 * k + 3)) hOM) (cwV 3 hts gL_law_X3_repair rfl rfl rfl (by decide +kernel) ⟨Nat.le_of_ble_eq_true rfl, Nat.le_of_ble_eq_true rfl⟩) (g_preV hS hZ hP hV [.int (xX x (7 * k + 1)), .int (xX x (7 * k + 2)), .int (xX x (7 * k + 3))] (id := 38) (by decide) rfl rfl) rfl rfl hl.1 rfl (lv_room (Nat.le_of_ble_eq_true rfl)) dL_law_1324 ⟨by show 57 + 5 * k + 4 ≤ 634721; omega, by show 1400 + 30 * k + 24 ≤ 7191940; omega⟩) hV (fun H locs hP hV => ?_)
    refine lv_istore (lv' := [(6, .int (mV_repair (oM_repair M cn gn dn pn (xX x (7 * k + 1)) (xX x (7 * k + 2)) (xX x (7 * k + 3))) cn gn dn pn (xX x (7 * k + 1)) (xX x (7 * k + 2)) (xX x (7 * k + 3)))), (5, .int (oK_repair M cn gn dn pn (xX x (7 * k + 1)) (xX x (7 * k + 2)) (xX x (7 * k + 3)))), (4, .int (nI (7 * k))), (0, .ref (xb x)), (1, .ref (xa x 0)), (2, .ref (xa x 38)), (3, .ref (xa x 56))]) hx hb dL_law_1327 hl (by decide) rfl (fun ls hl => ?_)
    refine lv_aload_n hx hb dL_law_1329 rfl (lv_at hl 5 rfl) ?_
    refine g_call1 (va_runV (As := []) (rest := []) ⟨hx, hb, hml, hown, hts⟩ (c_X3_thrown l x (mM_repair (oM_repair M cn gn dn pn (xX x (7 * k + 1)) (xX x (7 * k + 2)) (xX x (7 * k + 3))) cn gn dn pn (xX x (7 * k + 1)) (xX x (7 * k + 2)) (xX x (7 * k + 3)))) (cwV 0 hts gL_law_X3_thrown rfl rfl rfl (by decide +kernel) ⟨Nat.le_of_ble_eq_true rfl, Nat.le_of_ble_eq_true rfl⟩) (g_preV hS hZ hP hV [] (id := 38) (by decide) rfl rfl) rfl rfl hl.1 rfl (lv_room (Nat.le_of_ble_eq_true rfl)) dL_law_1330 ⟨by show 57 + 5 * k + 4 ≤ 634721; omega, by show 1400 + 30 * k + 24 ≤ 7191940; omega⟩) hV (fun H locs hP hV => ?_)
    refine lv_iload hx hb dL_law_1333 (lv_at hl 1 rfl) ?_
    refine lv_icmp_eq (tgt := 1340) hx hb dL_law_1335 (by decide) (fun c_1 => ?_) (fun c_1 => absurd hK1 c_1)
    refine lv_iload hx hb dL_law_1340 (lv_at hl 1 rfl) ?_
    refine lv_if_ne (tgt := 1357) hx hb dL_law_1342 (by decide) (fun c_2 => ?_) (fun c_2 => ?_)
    · exact J_1357 H locs hP hV ls (lv_sub hl [2, 3, 4, 5, 6] rfl)
    refine lv_aload_n hx hb dL_law_1345 rfl (lv_at hl 6 rfl) ?_
    refine lv_iconst (v := 0) hx hb dL_law_1346 (by decide) ?_
    refine g_lald hx hb hS hP dL_law_1347 ?_
    refine lv_iload hx hb dL_law_1348 (lv_at hl 0 rfl) ?_
    refine lv_i2l (v := (mV_repair (oM_repair M cn gn dn pn (xX x (7 * k + 1)) (xX x (7 * k + 2)) (xX x (7 * k + 3))) cn gn dn pn (xX x (7 * k + 1)) (xX x (7 * k + 2)) (xX x (7 * k + 3))).toInt64) hx hb dL_law_1350 rfl ?_
    refine W.lcmp hx hb dL_law_1351 ?_
    refine lv_if_eq (tgt := 1357) hx hb dL_law_1352 (by decide) (fun c_3 => ?_) (fun c_3 => absurd (lcmp_s (hK2 c_2)) c_3)
    exact J_1357 H locs hP hV ls (lv_sub hl [2, 3, 4, 5, 6] rfl)
set_option maxHeartbeats 4000000 in
set_option maxRecDepth 100000 in
theorem law_paid {p : Program} {e : Env} {s : State} {m : MethodId} {below : List Frame} {meth : Method} {c : Code} {l : Launch} (hlf : l.stackTraces = false) {x : Cx} (hL : xL x ≤ 3584) (hx : p.tables.exec = Jvm.exec) (hb : c.code = cL_law) (hml : c.maxLocals = 7) (hown : s.vm.findClass RL = some m.cls) (hts : ∀ w ∈ wsL_law, w.before #[Value.ref (xb x)] s = true) (hS : GS x s) (hZ : GZ x s s.heap) {M : Nat → Nat → Int32} {cn gn dn k : Nat} {pn : Nat → Nat} (hI : Inv M cn gn dn pn) (hk : 7 * k + 7 ≤ xL x) (hk2 : k ≤ 512)
    (NX : ∀ (M1 : Nat → Nat → Int32) (cn1 gn1 dn1 : Nat) (pn1 : Nat → Nat), Inv M1 cn1 gn1 dn1 pn1 → ∀ (H : Heap) (locs : List Loc), va_P (xD x) vwCl (wAll x M1) H → va_S (gF x) s.heap H locs → ∀ ls : Array Slot, lv_has ls 7 [(4, .int (nI (7 * k))), (0, .ref (xb x)), (1, .ref (xa x 0)), (2, .ref (xa x 38)), (3, .ref (xa x 56))] → W p l e room_1 s m #[Value.ref (xb x)] below meth c H locs (57 + 5 * k + 5) (1400 + 30 * k + 30) (lw_Z below #[Value.ref (xb x)] s) (F0 m 1416 ls []))
    (H : Heap) (locs : List Loc) (hP : va_P (xD x) vwCl (wAll x M) H) (hV : va_S (gF x) s.heap H locs) (ls : Array Slot) (hl : lv_has ls 7 [(4, .int (nI (7 * k))), (0, .ref (xb x)), (1, .ref (xa x 0)), (2, .ref (xa x 38)), (3, .ref (xa x 56))]) : W p l e room_1 s m #[Value.ref (xb x)] below meth c H locs (57 + 5 * k) (1400 + 30 * k) (lw_Z below #[Value.ref (xb x)] s) (F0 m 1360 ls []) := by
    have hst := st_paid hI (xX x (7 * k + 1))
    obtain ⟨hOM, hK1, hK2, cn1, gn1, dn1, pn1, hI1⟩ := hst
    have J_1413 : ∀ (H : Heap) (locs : List Loc), va_P (xD x) vwCl (wAll x (mM_paid (oM_paid M cn gn dn pn (xX x (7 * k + 1))) cn gn dn pn (xX x (7 * k + 1)))) H → va_S (gF x) s.heap H locs → ∀ ls : Array Slot, lv_has ls 7 [(4, .int (nI (7 * k))), (0, .ref (xb x)), (1, .ref (xa x 0)), (2, .ref (xa x 38)), (3, .ref (xa x 56))] → W p l e room_1 s m #[Value.ref (xb x)] below meth c H locs (57 + 5 * k + 1) (1400 + 30 * k + 6) (lw_Z below #[Value.ref (xb x)] s) (F0 m 1413 ls []) := by
      intro H locs hP hV ls hl
      refine lv_goto (tgt := 1416) hx hb dL_law_1413 (by decide) ?_
      exact W.widen (by omega) (by omega) (NX _ cn1 gn1 dn1 pn1 hI1 H locs hP hV ls hl)
    refine lv_aload_n hx hb dL_law_1360 rfl (lv_at hl 2 rfl) ?_
    refine lv_aload_n hx hb dL_law_1361 rfl (lv_at hl 1 rfl) ?_
    refine lv_iload hx hb dL_law_1362 (lv_at hl 0 rfl) ?_
    refine lv_iconst (v := 1) hx hb dL_law_1364 (by decide) ?_
    refine h_iadd (v := nI (7 * k + 1)) hx hb dL_law_1365 (nI_add (7 * k) 1) ?_
    refine g_sld (j := 7 * k + 1) hx hb hS hZ hV hL (by omega) dL_law_1366 ?_
    refine lv_aload_n hx hb dL_law_1367 rfl (lv_at hl 4 rfl) ?_
    refine g_call1 (vx_runSW (As := [.ref (xa x 0), .int (xX x (7 * k + 1)), .ref (xa x 56)]) (rest := []) ⟨hx, hb, hml, hown, hts⟩ (k_L_paid l hlf x M cn gn dn pn (xX x (7 * k + 1)) hI.o) (vx_cwSW 3 hts gL_law_L_paid rfl rfl rfl (by decide +kernel) ⟨Nat.le_of_ble_eq_true rfl, Nat.le_of_ble_eq_true rfl⟩) (g_preS hS hZ hP hV [.ref (xa x 0), .int (xX x (7 * k + 1)), .ref (xa x 56)]) rfl rfl hl.1 rfl (lv_room (Nat.le_of_ble_eq_true rfl)) dL_law_1368 ⟨by show 57 + 5 * k + 1 ≤ 634721; omega, by show 1400 + 30 * k + 6 ≤ 7191940; omega⟩) hV (fun H locs hP hV => ?_)
    refine lv_istore (lv' := [(5, .int (oK_paid M cn gn dn pn (xX x (7 * k + 1)))), (4, .int (nI (7 * k))), (0, .ref (xb x)), (1, .ref (xa x 0)), (2, .ref (xa x 38)), (3, .ref (xa x 56))]) hx hb dL_law_1371 hl (by decide) rfl (fun ls hl => ?_)
    refine lv_aload_n hx hb dL_law_1373 rfl (lv_at hl 4 rfl) ?_
    refine lv_aload_n hx hb dL_law_1374 rfl (lv_at hl 2 rfl) ?_
    refine lv_iload hx hb dL_law_1375 (lv_at hl 1 rfl) ?_
    refine lv_iconst (v := 1) hx hb dL_law_1377 (by decide) ?_
    refine h_iadd (v := nI (7 * k + 1)) hx hb dL_law_1378 (nI_add (7 * k) 1) ?_
    refine g_sld (j := 7 * k + 1) hx hb hS hZ hV hL (by omega) dL_law_1379 ?_
    refine g_call1 (va_runV (As := [.int (xX x (7 * k + 1))]) (rest := []) ⟨hx, hb, hml, hown, hts⟩ (k_X3_paid l x (oM_paid M cn gn dn pn (xX x (7 * k + 1))) cn gn dn pn (xX x (7 * k + 1)) hOM) (cwV 1 hts gL_law_X3_paid rfl rfl rfl (by decide +kernel) ⟨Nat.le_of_ble_eq_true rfl, Nat.le_of_ble_eq_true rfl⟩) (g_preV hS hZ hP hV [.int (xX x (7 * k + 1))] (id := 38) (by decide) rfl rfl) rfl rfl hl.1 rfl (lv_room (Nat.le_of_ble_eq_true rfl)) dL_law_1380 ⟨by show 57 + 5 * k + 1 ≤ 634721; omega, by show 1400 + 30 * k + 6 ≤ 7191940; omega⟩) hV (fun H locs hP hV => ?_)
    refine lv_istore (lv' := [(6, .int (mV_paid (oM_paid M cn gn dn pn (xX x (7 * k + 1))) cn gn dn pn (xX x (7 * k + 1)))), (5, .int (oK_paid M cn gn dn pn (xX x (7 * k + 1)))), (4, .int (nI (7 * k))), (0, .ref (xb x)), (1, .ref (xa x 0)), (2, .ref (xa x 38)), (3, .ref (xa x 56))]) hx hb dL_law_1383 hl (by decide) rfl (fun ls hl => ?_)
    refine lv_aload_n hx hb dL_law_1385 rfl (lv_at hl 5 rfl) ?_
    refine g_call1 (va_runV (As := []) (rest := []) ⟨hx, hb, hml, hown, hts⟩ (c_X3_thrown l x (mM_paid (oM_paid M cn gn dn pn (xX x (7 * k + 1))) cn gn dn pn (xX x (7 * k + 1)))) (cwV 0 hts gL_law_X3_thrown rfl rfl rfl (by decide +kernel) ⟨Nat.le_of_ble_eq_true rfl, Nat.le_of_ble_eq_true rfl⟩) (g_preV hS hZ hP hV [] (id := 38) (by decide) rfl rfl) rfl rfl hl.1 rfl (lv_room (Nat.le_of_ble_eq_true rfl)) dL_law_1386 ⟨by show 57 + 5 * k + 1 ≤ 634721; omega, by show 1400 + 30 * k + 6 ≤ 7191940; omega⟩) hV (fun H locs hP hV => ?_)
    refine lv_iload hx hb dL_law_1389 (lv_at hl 1 rfl) ?_
    refine lv_icmp_eq (tgt := 1396) hx hb dL_law_1391 (by decide) (fun c_1 => ?_) (fun c_1 => absurd hK1 c_1)
    refine lv_iload hx hb dL_law_1396 (lv_at hl 1 rfl) ?_
    refine lv_if_ne (tgt := 1413) hx hb dL_law_1398 (by decide) (fun c_2 => ?_) (fun c_2 => ?_)
    · exact J_1413 H locs hP hV ls (lv_sub hl [2, 3, 4, 5, 6] rfl)
    refine lv_aload_n hx hb dL_law_1401 rfl (lv_at hl 6 rfl) ?_
    refine lv_iconst (v := 0) hx hb dL_law_1402 (by decide) ?_
    refine g_lald hx hb hS hP dL_law_1403 ?_
    refine lv_iload hx hb dL_law_1404 (lv_at hl 0 rfl) ?_
    refine lv_i2l (v := (mV_paid (oM_paid M cn gn dn pn (xX x (7 * k + 1))) cn gn dn pn (xX x (7 * k + 1))).toInt64) hx hb dL_law_1406 rfl ?_
    refine W.lcmp hx hb dL_law_1407 ?_
    refine lv_if_eq (tgt := 1413) hx hb dL_law_1408 (by decide) (fun c_3 => ?_) (fun c_3 => absurd (lcmp_s (hK2 c_2)) c_3)
    exact J_1413 H locs hP hV ls (lv_sub hl [2, 3, 4, 5, 6] rfl)
