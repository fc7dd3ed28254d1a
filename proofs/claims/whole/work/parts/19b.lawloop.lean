theorem lawcmp {L i : Nat} (hL : L ≤ 3584) (hi : i ≤ 3584) (h : ¬ (Int32.ofNat L - 7 < nI i)) : i + 7 ≤ L := by
  rcases Nat.lt_or_ge L 7 with q | q
  · exfalso
    apply h
    refine Int32.lt_of_lt_of_le (b := 0) ?_ (nI_pos' (by omega))
    rcases (show L = 0 ∨ L = 1 ∨ L = 2 ∨ L = 3 ∨ L = 4 ∨ L = 5 ∨ L = 6 by omega) with rfl | rfl | rfl | rfl | rfl | rfl | rfl <;> decide
  · rcases Nat.lt_or_ge L (i + 7) with z | z
    · exfalso
      apply h
      have e : Int32.ofNat L - 7 = nI (L - 7) := pk_sub (a := L) (b := 7) q
      rw [e]
      exact (nI_ltI (by omega) (by omega)).mpr (by omega)
    · exact z
set_option maxHeartbeats 4000000 in
set_option maxRecDepth 100000 in
theorem law_loop {p : Program} {e : Env} {s : State} {m : MethodId} {below : List Frame} {meth : Method} {c : Code} {l : Launch} (hlf : l.stackTraces = false) {x : Cx} (hL : xL x ≤ 3584) (hx : p.tables.exec = Jvm.exec) (hb : c.code = cL_law) (hml : c.maxLocals = 7) (hown : s.vm.findClass RL = some m.cls) (hts : ∀ w ∈ wsL_law, w.before #[Value.ref (xb x)] s = true) (hS : GS x s) (hZ : GZ x s s.heap) (hr : meth.sig.returnType = ret) (hlk : meth.locks = false) (hxb : xB x = s.heap.size) : ∀ nn k : Nat, 513 - k < nn → k ≤ 512 → ∀ (M : Nat → Nat → Int32) (cn gn dn : Nat) (pn : Nat → Nat), Inv M cn gn dn pn → ∀ (H : Heap) (locs : List Loc), va_P (xD x) vwCl (wAll x M) H → va_S (gF x) s.heap H locs → ∀ ls : Array Slot, lv_has ls 7 [(4, .int (nI (7 * k))), (0, .ref (xb x)), (1, .ref (xa x 0)), (2, .ref (xa x 38)), (3, .ref (xa x 56))] → W p l e room_1 s m #[Value.ref (xb x)] below meth c H locs (57 + 5 * k) (1400 + 30 * k) (lw_Z below #[Value.ref (xb x)] s) (F0 m 23 ls []) := by
  intro nn
  induction nn with
  | zero => intro k hz; exact absurd hz (Nat.not_lt_zero _)
  | succ nn ih =>
    intro k hf hk M cn gn dn pn hI H locs hP hV ls hl
    refine lv_iload hx hb dL_law_23 (lv_at hl 0 rfl) ?_
    refine lv_aload_n hx hb dL_law_25 rfl (lv_at hl 1 rfl) ?_
    refine va_slen hx hb hZ.2.2.1 (Nat.lt_of_lt_of_le hS.2.2.2.1 hZ.2.2.2) (A := gF x) (Nat.not_le.mpr hS.2.2.2.1) hV dL_law_26 ?_
    refine lv_bipush (v := 7) hx hb dL_law_27 (by decide) ?_
    refine lv_isub hx hb dL_law_29 ?_
    refine lv_icmp_gt (tgt := 1422) hx hb dL_law_30 (by decide) (fun c_1 => ?_) (fun c_1 => ?_)
    · refine lv_iconst (v := 1) hx hb dL_law_1422 (by decide) ?_
      refine W.widen (k := 634721) (n := 7191940) (by omega) (by omega) ?_
      refine va_forget (fun q hq => ?_) (lw_ret hx hb hr hlk dL_law_1423)
      rw [← hxb]; exact hV.2.2 q hq
    · have hk7 : 7 * k + 7 ≤ xL x := lawcmp hL (by omega) c_1
      refine lv_aload_n hx hb dL_law_33 rfl (lv_at hl 1 rfl) ?_
      refine lv_iload hx hb dL_law_34 (lv_at hl 0 rfl) ?_
      refine g_sld (j := 7 * k) hx hb hS hZ hV hL (by omega) dL_law_36 ?_
      refine lv_bipush (v := 31) hx hb dL_law_37 (by decide) ?_
      refine lv_iand hx hb dL_law_39 ?_
      generalize xX x (7 * k) &&& 31 = v
      have NX : ∀ (M1 : Nat → Nat → Int32) (cn1 gn1 dn1 : Nat) (pn1 : Nat → Nat), Inv M1 cn1 gn1 dn1 pn1 → ∀ (H : Heap) (locs : List Loc), va_P (xD x) vwCl (wAll x M1) H → va_S (gF x) s.heap H locs → ∀ ls : Array Slot, lv_has ls 7 [(4, .int (nI (7 * k))), (0, .ref (xb x)), (1, .ref (xa x 0)), (2, .ref (xa x 38)), (3, .ref (xa x 56))] → W p l e room_1 s m #[Value.ref (xb x)] below meth c H locs (57 + 5 * k + 5) (1400 + 30 * k + 30) (lw_Z below #[Value.ref (xb x)] s) (F0 m 1416 ls []) := by
        intro M1 cn1 gn1 dn1 pn1 hI1 H locs hP hV ls hl
        refine lv_iinc (v := nI (7 * (k + 1))) (lv' := [(4, .int (nI (7 * (k + 1)))), (0, .ref (xb x)), (1, .ref (xa x 0)), (2, .ref (xa x 38)), (3, .ref (xa x 56))]) hx hb dL_law_1416 hl (k := 0) rfl (nI_add (7 * k) 7) (by decide) rfl (fun ls hl => ?_)
        refine lv_goto (tgt := 23) hx hb dL_law_1419 (by decide) ?_
        refine W.widen (k := 57 + 5 * (k + 1)) (n := 1400 + 30 * (k + 1)) (by omega) (by omega) ?_
        exact ih (k + 1) (by omega) (by omega) M1 cn1 gn1 dn1 pn1 hI1 H locs hP hV ls hl
      by_cases hv : v.toInt < 0 ∨ 18 < v.toInt
      · refine lv_tableOut (tgt := 1416) hx hb dL_law_40 hv (by decide) ?_
        exact W.widen (by omega) (by omega) (NX M cn gn dn pn hI H locs hP hV ls hl)
      · rcases (show v.toInt = 0 ∨ v.toInt = 1 ∨ v.toInt = 2 ∨ v.toInt = 3 ∨ v.toInt = 4 ∨ v.toInt = 5 ∨ v.toInt = 6 ∨ v.toInt = 7 ∨ v.toInt = 8 ∨ v.toInt = 9 ∨ v.toInt = 10 ∨ v.toInt = 11 ∨ v.toInt = 12 ∨ v.toInt = 13 ∨ v.toInt = 14 ∨ v.toInt = 15 ∨ v.toInt = 16 ∨ v.toInt = 17 ∨ v.toInt = 18 by omega) with q | q | q | q | q | q | q | q | q | q | q | q | q | q | q | q | q | q | q
        · refine lv_tableIn (off := 92) (tgt := 132) hx hb dL_law_40 (by omega) (by omega) (by rw [q]; rfl) (by decide) ?_
          exact law_draft hlf hL hx hb hml hown hts hS hZ hI hk7 hk NX H locs hP hV ls hl
        · refine lv_tableIn (off := 160) (tgt := 200) hx hb dL_law_40 (by omega) (by omega) (by rw [q]; rfl) (by decide) ?_
          exact law_lay hlf hL hx hb hml hown hts hS hZ hI hk7 hk NX H locs hP hV ls hl
        · refine lv_tableIn (off := 204) (tgt := 244) hx hb dL_law_40 (by omega) (by omega) (by rw [q]; rfl) (by decide) ?_
          exact law_move hlf hL hx hb hml hown hts hS hZ hI hk7 hk NX H locs hP hV ls hl
        · refine lv_tableIn (off := 296) (tgt := 336) hx hb dL_law_40 (by omega) (by omega) (by rw [q]; rfl) (by decide) ?_
          exact law_cables hlf hL hx hb hml hown hts hS hZ hI hk7 hk NX H locs hP hV ls hl
        · refine lv_tableIn (off := 309) (tgt := 349) hx hb dL_law_40 (by omega) (by omega) (by rw [q]; rfl) (by decide) ?_
          exact law_point hlf hL hx hb hml hown hts hS hZ hI hk7 hk NX H locs hP hV ls hl
        · refine lv_tableIn (off := 377) (tgt := 417) hx hb dL_law_40 (by omega) (by omega) (by rw [q]; rfl) (by decide) ?_
          exact law_crossings hlf hL hx hb hml hown hts hS hZ hI hk7 hk NX H locs hP hV ls hl
        · refine lv_tableIn (off := 445) (tgt := 485) hx hb dL_law_40 (by omega) (by omega) (by rw [q]; rfl) (by decide) ?_
          exact law_crossingsAnew hlf hL hx hb hml hown hts hS hZ hI hk7 hk NX H locs hP hV ls hl
        · refine lv_tableIn (off := 513) (tgt := 553) hx hb dL_law_40 (by omega) (by omega) (by rw [q]; rfl) (by decide) ?_
          exact law_isWell hlf hL hx hb hml hown hts hS hZ hI hk7 hk NX H locs hP hV ls hl
        · refine lv_tableIn (off := 588) (tgt := 628) hx hb dL_law_40 (by omega) (by omega) (by rw [q]; rfl) (by decide) ?_
          exact law_agree hlf hL hx hb hml hown hts hS hZ hI hk7 hk NX H locs hP hV ls hl
        · refine lv_tableIn (off := 656) (tgt := 696) hx hb dL_law_40 (by omega) (by omega) (by rw [q]; rfl) (by decide) ?_
          exact law_isAgreed hlf hL hx hb hml hown hts hS hZ hI hk7 hk NX H locs hP hV ls hl
        · refine lv_tableIn (off := 731) (tgt := 771) hx hb dL_law_40 (by omega) (by omega) (by rw [q]; rfl) (by decide) ?_
          exact law_bare hlf hL hx hb hml hown hts hS hZ hI hk7 hk NX H locs hP hV ls hl
        · refine lv_tableIn (off := 744) (tgt := 784) hx hb dL_law_40 (by omega) (by omega) (by rw [q]; rfl) (by decide) ?_
          exact law_ground hlf hL hx hb hml hown hts hS hZ hI hk7 hk NX H locs hP hV ls hl
        · refine lv_tableIn (off := 862) (tgt := 902) hx hb dL_law_40 (by omega) (by omega) (by rw [q]; rfl) (by decide) ?_
          exact law_tell hlf hL hx hb hml hown hts hS hZ hI hk7 hk NX H locs hP hV ls hl
        · refine lv_tableIn (off := 930) (tgt := 970) hx hb dL_law_40 (by omega) (by omega) (by rw [q]; rfl) (by decide) ?_
          exact law_isClosed hlf hL hx hb hml hown hts hS hZ hI hk7 hk NX H locs hP hV ls hl
        · refine lv_tableIn (off := 1005) (tgt := 1045) hx hb dL_law_40 (by omega) (by omega) (by rw [q]; rfl) (by decide) ?_
          exact law_touches hlf hL hx hb hml hown hts hS hZ hI hk7 hk NX H locs hP hV ls hl
        · refine lv_tableIn (off := 1092) (tgt := 1132) hx hb dL_law_40 (by omega) (by omega) (by rw [q]; rfl) (by decide) ?_
          exact law_lifted hlf hL hx hb hml hown hts hS hZ hI hk7 hk NX H locs hP hV ls hl
        · refine lv_tableIn (off := 1160) (tgt := 1200) hx hb dL_law_40 (by omega) (by omega) (by rw [q]; rfl) (by decide) ?_
          exact law_cost hlf hL hx hb hml hown hts hS hZ hI hk7 hk NX H locs hP hV ls hl
        · refine lv_tableIn (off := 1240) (tgt := 1280) hx hb dL_law_40 (by omega) (by omega) (by rw [q]; rfl) (by decide) ?_
          exact law_repair hlf hL hx hb hml hown hts hS hZ hI hk7 hk NX H locs hP hV ls hl
        · refine lv_tableIn (off := 1320) (tgt := 1360) hx hb dL_law_40 (by omega) (by omega) (by rw [q]; rfl) (by decide) ?_
          exact law_paid hlf hL hx hb hml hown hts hS hZ hI hk7 hk NX H locs hP hV ls hl
