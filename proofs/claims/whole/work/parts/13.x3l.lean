set_option maxHeartbeats 4000000 in
set_option maxRecDepth 100000 in
theorem c_X3_lifts (l : Launch) (x : Cx) (M : Nat → Nat → Int32) (cn gn dn : Nat) (pn : Nat → Nat) (y : Nat) (hM : OkM M cn gn dn pn) (hy : okP cn pn y) : Met l yX3_lifts wsX3_lifts ({ frames := 4, cells := 0, slots := 0, locals := 105 }) (gP x M [.ref (xa x 38), .int (nI y)]) (gQ x (some (.int (nI (LF M pn cn y).2))) ((LF M pn cn y).1)) 0 0 (gF x) := by
  refine g_met (cc := cX3_lifts) (maxL := 6) (ret := some .int) (by decide) rfl (Nat.le_of_ble_eq_true rfl) ?_
  intro p e s m below meth c hx hb hr hml hts hown hlk hS hZ hP hV ls hl
  have hl : lv_has ls 6 [(0, .ref (xa x 38)), (1, .int (nI y))] := hl
  have hw_f56 := hts (.fieldLink RX3 56 "CableOfficeModel" "areLifted" "[Z") (by decide +kernel)
  have hinX3 : ∀ w ∈ wsX30, w ∈ wsX3_lifts := by decide +kernel
  have hw_f59 := hts (.fieldLink RX3 59 "CableOfficeModel" "row" "[I") (by decide +kernel)
  have hw_f70 := hts (.fieldLink RX3 70 "CableOfficeModel" "cables" "I") (by decide +kernel)
  have hw_f16 := hts (.fieldLink RX3 16 "CableOfficeModel" "counts" "[I") (by decide +kernel)
  have hc8 := hM.c8
  have hg5 := hM.g5
  have hd8 := hM.d8
  have h7 : P7 cn pn := hM.pp
  have hy63 := okP_lt hc8 h7 hy
  refine lv_iconst (v := 0) hx hb dX3_lifts_0 (by decide) ?_
  refine lv_istore_n (lv' := [(2, .int 0), (0, .ref (xa x 38)), (1, .int (nI y))]) hx hb dX3_lifts_1 rfl hl (by decide) rfl (fun ls hl => ?_)
  have lp_2 : ∀ (nn k : Nat), 64 - k < nn → k ≤ 64 → ∀ (H : Heap) (locs : List Loc), va_P (xD x) vwCl (wAll x (clL M k)) H → va_S (gF x) s.heap H locs → ∀ ls : Array Slot, lv_has ls 6 [(2, .int (nI k)), (0, .ref (xa x 38)), (1, .int (nI y))] → W p l e ({ frames := 4, cells := 0, slots := 0, locals := 105 }) s m ([.ref (xa x 38), .int (nI y)] : List Value).toArray below meth c H locs 0 0 (MQ below (gQ x (some (.int (nI (LF M pn cn y).2))) ((LF M pn cn y).1)) ([.ref (xa x 38), .int (nI y)] : List Value).toArray s 0 0 (gF x)) (F0 m 2 ls []) := by
    intro nn
    induction nn with
    | zero => intro k hz; exact absurd hz (Nat.not_lt_zero _)
    | succ nn ih_2 =>
      intro k hf_2 hk_2  H locs hP hV ls hl
      refine lv_iload_n hx hb dX3_lifts_2 rfl (lv_at hl 0 rfl) ?_
      refine lv_bipush (v := 64) hx hb dX3_lifts_3 (by decide) ?_
      refine h_icmp_ge_n (a := k) (b := 64) (tgt := 21) hx hb (by omega) (by omega) dX3_lifts_5 (by decide) (fun c_1 => ?_) (fun c_1 => ?_)
      · -- taken
        rw [show k = 64 by omega] at hP
        refine lv_aload_n hx hb dX3_lifts_21 rfl (lv_at hl 1 rfl) ?_
        refine g_get (C := RX3) (T := TX3) (N := 22) (v := .ref (xa x 54)) hx hb hts hinX3 hown hS hP (id := 38) (by decide) rfl rfl 20 (by decide) hw_f56 rfl dX3_lifts_22 ?_
        refine lv_iload_n hx hb dX3_lifts_25 rfl (lv_at hl 2 rfl) ?_
        refine lv_iconst (v := 1) hx hb dX3_lifts_26 (by decide) ?_
        refine g_zast (j := y) hx hb hS hP hV (id := 54) (by omega) (fun _ => rfl) (by decide) rfl (by omega) (by decide) dX3_lifts_27 (fun H locs hP hV => ?_)
        refine lv_aload_n hx hb dX3_lifts_28 rfl (lv_at hl 1 rfl) ?_
        refine g_get (C := RX3) (T := TX3) (N := 22) (v := .ref (xa x 55)) hx hb hts hinX3 hown hS hP (id := 38) (by decide) rfl rfl 21 (by decide) hw_f59 rfl dX3_lifts_29 ?_
        refine lv_iconst (v := 0) hx hb dX3_lifts_32 (by decide) ?_
        refine lv_iload_n hx hb dX3_lifts_33 rfl (lv_at hl 2 rfl) ?_
        refine g_iast (j := 0) hx hb hS hP hV (id := 55) (by omega) (fun _ => rfl) (by decide) rfl (by omega) dX3_lifts_34 (fun H locs hP hV => ?_)
        refine lv_iconst (v := 1) hx hb dX3_lifts_35 (by decide) ?_
        refine lv_istore_n (lv' := [(2, .int 1), (0, .ref (xa x 38)), (1, .int (nI y))]) hx hb dX3_lifts_36 rfl hl (by decide) rfl (fun ls hl => ?_)
        refine lv_iconst (v := 0) hx hb dX3_lifts_37 (by decide) ?_
        refine lv_istore_n (lv' := [(3, .int 0), (2, .int 1), (0, .ref (xa x 38)), (1, .int (nI y))]) hx hb dX3_lifts_38 rfl hl (by decide) rfl (fun ls hl => ?_)
        have lp_39 : ∀ (nn t : Nat), 64 - t < nn → t ≤ 64 → ∀ (H : Heap) (locs : List Loc), va_P (xD x) vwCl (wAll x ((liA pn cn (l0 M y) t).1)) H → va_S (gF x) s.heap H locs → ∀ ls : Array Slot, lv_has ls 6 [(3, .int (nI t)), (2, .int (nI ((liA pn cn (l0 M y) t).2))), (0, .ref (xa x 38)), (1, .int (nI y))] → W p l e ({ frames := 4, cells := 0, slots := 0, locals := 105 }) s m ([.ref (xa x 38), .int (nI y)] : List Value).toArray below meth c H locs 0 0 (MQ below (gQ x (some (.int (nI (LF M pn cn y).2))) ((LF M pn cn y).1)) ([.ref (xa x 38), .int (nI y)] : List Value).toArray s 0 0 (gF x)) (F0 m 39 ls []) := by
          intro nn
          induction nn with
          | zero => intro t hz; exact absurd hz (Nat.not_lt_zero _)
          | succ nn ih_39 =>
            intro t hf_39 hk_39  H locs hP hV ls hl
            have hI : LInv M pn cn (liA pn cn (l0 M y) t) := liA_inv hc8 h7 (l0_inv hc8 h7 hy) t
            have hMt := hM.of hI.1
            have hn63 := hI.n63 hc8 h7
            refine lv_iload_n hx hb dX3_lifts_39 rfl (lv_at hl 0 rfl) ?_
            refine lv_iload_n hx hb dX3_lifts_40 rfl (lv_at hl 1 rfl) ?_
            refine h_icmp_ge_n (a := t) (b := (liA pn cn (l0 M y) t).2) (tgt := 160) hx hb (by omega) (by omega) dX3_lifts_41 (by decide) (fun c_2 => ?_) (fun c_2 => ?_)
            · -- taken
              refine lv_iload_n hx hb dX3_lifts_160 rfl (lv_at hl 1 rfl) ?_
              exact g_iret hx hb hr hlk hS hZ hP hV (Nat.le_of_ble_eq_true rfl) (Nat.le_of_ble_eq_true rfl) dX3_lifts_161 (by rw [liA_end c_2 hk_39]; rfl) (by rw [liA_end c_2 hk_39]; rfl)
            · -- on
              obtain ⟨r, hr1, hr2, hr3⟩ := hI.2.2.2.1 t c_2
              have hr63 := okP_lt hc8 h7 hr2
              have hrc := hr2.1
              have hr7 := (h7 (r / 8) (by omega)).2
              have hrq := hr2.2
              refine lv_bipush (v := 8) hx hb dX3_lifts_44 (by decide) ?_
              refine lv_aload_n hx hb dX3_lifts_46 rfl (lv_at hl 2 rfl) ?_
              refine g_get (C := RX3) (T := TX3) (N := 22) (v := .ref (xa x 55)) hx hb hts hinX3 hown hS hP (id := 38) (by decide) rfl rfl 21 (by decide) hw_f59 rfl dX3_lifts_47 ?_
              refine lv_iload_n hx hb dX3_lifts_50 rfl (lv_at hl 0 rfl) ?_
              refine g_iald (j := t) hx hb hS hP (id := 55) (by omega) ((fun _ => rfl) _) (by decide) rfl (by omega) dX3_lifts_51 ?_
              rw [hr1]
              refine lv_bipush (v := 8) hx hb dX3_lifts_52 (by decide) ?_
              refine h_idiv (v := nI (r / 8)) hx hb dX3_lifts_54 (h_div (a := r) (d := 8) (by omega) (by omega) (by omega)).1 (h_div (a := r) (d := 8) (by omega) (by omega) (by omega)).2.1 ?_
              refine lv_iconst (v := 1) hx hb dX3_lifts_55 (by decide) ?_
              refine h_iadd (v := nI ((r / 8) + 1)) hx hb dX3_lifts_56 (nI_add (r / 8) (1)) ?_
              refine h_imul (v := nI (8 * ((r / 8) + 1))) hx hb dX3_lifts_57 (pk_mul (8) ((r / 8) + 1)) ?_
              refine lv_istore (lv' := [(4, .int (nI (8 * ((r / 8) + 1)))), (3, .int (nI t)), (2, .int (nI ((liA pn cn (l0 M y) t).2))), (0, .ref (xa x 38)), (1, .int (nI y))]) hx hb dX3_lifts_58 hl (by decide) rfl (fun ls hl => ?_)
              have lp_60 : ∀ (nn u : Nat), (8 * cn - 8 * (r / 8 + 1)) - u < nn → u ≤ (8 * cn - 8 * (r / 8 + 1)) → ∀ (H : Heap) (locs : List Loc), va_P (xD x) vwCl (wAll x ((liK pn r (8 * (r / 8 + 1)) (liA pn cn (l0 M y) t) u).1)) H → va_S (gF x) s.heap H locs → ∀ ls : Array Slot, lv_has ls 6 [(4, .int (nI (8 * (r / 8 + 1) + u))), (2, .int (nI ((liK pn r (8 * (r / 8 + 1)) (liA pn cn (l0 M y) t) u).2))), (3, .int (nI t)), (0, .ref (xa x 38)), (1, .int (nI y))] → W p l e ({ frames := 4, cells := 0, slots := 0, locals := 105 }) s m ([.ref (xa x 38), .int (nI y)] : List Value).toArray below meth c H locs 0 0 (MQ below (gQ x (some (.int (nI (LF M pn cn y).2))) ((LF M pn cn y).1)) ([.ref (xa x 38), .int (nI y)] : List Value).toArray s 0 0 (gF x)) (F0 m 60 ls []) := by
                intro nn
                induction nn with
                | zero => intro u hz; exact absurd hz (Nat.not_lt_zero _)
                | succ nn ih_60 =>
                  intro u hf_60 hk_60  H locs hP hV ls hl
                  have hIk : LInv M pn cn (liK pn r (8 * (r / 8 + 1)) (liA pn cn (l0 M y) t) u) := liK_inv hc8 h7 hI u (by omega)
                  have hMk := hM.of hIk.1
                  have hnk := hIk.n63 hc8 h7
                  have hrk : (liK pn r (8 * (r / 8 + 1)) (liA pn cn (l0 M y) t) u).1 55 t = nI r := (liK_row c_2 u).1.trans hr1
                  refine lv_iload hx hb dX3_lifts_60 (lv_at hl 0 rfl) ?_
                  refine lv_bipush (v := 8) hx hb dX3_lifts_62 (by decide) ?_
                  refine lv_aload_n hx hb dX3_lifts_64 rfl (lv_at hl 3 rfl) ?_
                  refine g_get (C := RX3) (T := TX3) (N := 22) (v := .int (nI cn)) hx hb hts hinX3 hown hS hP (id := 38) (by decide) rfl rfl 4 (by decide) hw_f70 (congrArg (fun z => some (Value.int z)) hMk.c) dX3_lifts_65 ?_
                  refine h_imul (v := nI (8 * cn)) hx hb dX3_lifts_68 (pk_mul (8) (cn)) ?_
                  refine h_icmp_ge_n (a := 8 * (r / 8 + 1) + u) (b := 8 * cn) (tgt := 154) hx hb (by omega) (by omega) dX3_lifts_69 (by decide) (fun c_3 => ?_) (fun c_3 => ?_)
                  · -- taken
                    refine lv_iinc (v := nI (t + 1)) (lv' := [(3, .int (nI (t + 1))), (4, .int (nI (8 * (r / 8 + 1) + u))), (2, .int (nI ((liK pn r (8 * (r / 8 + 1)) (liA pn cn (l0 M y) t) u).2))), (0, .ref (xa x 38)), (1, .int (nI y))]) hx hb dX3_lifts_154 hl (k := 2) rfl (nI_add (t) 1) (by decide) rfl (fun ls hl => ?_)
                    refine lv_goto (tgt := 39) hx hb dX3_lifts_157 (by decide) ?_
                    have hA1 := liA_s c_2 hr1 (by omega)
                    rw [← show u = 8 * cn - 8 * (r / 8 + 1) by omega] at hA1
                    exact ih_39 (t + 1) (by omega) (by omega)  _ _ (show va_P (xD x) vwCl (wAll x ((liA pn cn (l0 M y) (t + 1)).1)) _ from by rw [hA1]; exact hP) hV ls (lv_sub hl [0, 2, 3, 4] (show ([(3, .int (nI (t + 1))), (2, .int (nI ((liK pn r (8 * (r / 8 + 1)) (liA pn cn (l0 M y) t) u).2))), (0, .ref (xa x 38)), (1, .int (nI y))] : List (Nat × Value)) = [(3, .int (nI (t + 1))), (2, .int (nI ((liA pn cn (l0 M y) (t + 1)).2))), (0, .ref (xa x 38)), (1, .int (nI y))] from by rw [hA1]))
                  · -- on
                    have hk7 := (h7 ((8 * (r / 8 + 1) + u) / 8) (by omega)).2
                    have J_107 : ∀ v : Int32, v = bI (decide ((8 * (r / 8 + 1) + u) % 8 < pn ((8 * (r / 8 + 1) + u) / 8)) && decide ((liK pn r (8 * (r / 8 + 1)) (liA pn cn (l0 M y) t) u).1 54 (8 * (r / 8 + 1) + u) = 0)) → ∀ (H : Heap) (locs : List Loc), va_P (xD x) vwCl (wAll x ((liK pn r (8 * (r / 8 + 1)) (liA pn cn (l0 M y) t) u).1)) H → va_S (gF x) s.heap H locs → ∀ ls : Array Slot, lv_has ls 6 [(4, .int (nI (8 * (r / 8 + 1) + u))), (2, .int (nI ((liK pn r (8 * (r / 8 + 1)) (liA pn cn (l0 M y) t) u).2))), (3, .int (nI t)), (0, .ref (xa x 38)), (1, .int (nI y))] → W p l e ({ frames := 4, cells := 0, slots := 0, locals := 105 }) s m ([.ref (xa x 38), .int (nI y)] : List Value).toArray below meth c H locs 0 0 (MQ below (gQ x (some (.int (nI (LF M pn cn y).2))) ((LF M pn cn y).1)) ([.ref (xa x 38), .int (nI y)] : List Value).toArray s 0 0 (gF x)) (F0 m 107 ls (.int v :: [])) := by
                      intro v hv H locs hP hV ls hl
                      subst hv
                      refine lv_istore (lv' := [(5, .int (bI (decide ((8 * (r / 8 + 1) + u) % 8 < pn ((8 * (r / 8 + 1) + u) / 8)) && decide ((liK pn r (8 * (r / 8 + 1)) (liA pn cn (l0 M y) t) u).1 54 (8 * (r / 8 + 1) + u) = 0)))), (4, .int (nI (8 * (r / 8 + 1) + u))), (2, .int (nI ((liK pn r (8 * (r / 8 + 1)) (liA pn cn (l0 M y) t) u).2))), (3, .int (nI t)), (0, .ref (xa x 38)), (1, .int (nI y))]) hx hb dX3_lifts_107 hl (by decide) rfl (fun ls hl => ?_)
                      refine lv_iload hx hb dX3_lifts_109 (lv_at hl 0 rfl) ?_
                      refine h_if_eq_b (tgt := 148) hx hb dX3_lifts_111 (by decide) (fun c_4 => ?_) (fun c_4 => ?_)
                      · -- taken
                        refine lv_iinc (v := nI ((8 * (r / 8 + 1) + u) + 1)) (lv' := [(4, .int (nI ((8 * (r / 8 + 1) + u) + 1))), (5, .int (bI (decide ((8 * (r / 8 + 1) + u) % 8 < pn ((8 * (r / 8 + 1) + u) / 8)) && decide ((liK pn r (8 * (r / 8 + 1)) (liA pn cn (l0 M y) t) u).1 54 (8 * (r / 8 + 1) + u) = 0)))), (2, .int (nI ((liK pn r (8 * (r / 8 + 1)) (liA pn cn (l0 M y) t) u).2))), (3, .int (nI t)), (0, .ref (xa x 38)), (1, .int (nI y))]) hx hb dX3_lifts_148 hl (k := 1) rfl (nI_add (8 * (r / 8 + 1) + u) 1) (by decide) rfl (fun ls hl => ?_)
                        refine lv_goto (tgt := 60) hx hb dX3_lifts_151 (by decide) ?_
                        have hs : liK pn r (8 * (r / 8 + 1)) (liA pn cn (l0 M y) t) (u + 1) = liK pn r (8 * (r / 8 + 1)) (liA pn cn (l0 M y) t) u := by rw [liK, liI, if_neg (by simp only [liC, Bool.and_eq_true]; intro z; have z1 := z.1; simp only [Bool.and_eq_false_iff] at c_4; rcases c_4 with q | q; exact absurd (z1.1.symm.trans q) (by decide); exact absurd (z1.2.symm.trans q) (by decide))]
                        exact ih_60 (u + 1) (by omega) (by omega)  _ _ (show va_P (xD x) vwCl (wAll x ((liK pn r (8 * (r / 8 + 1)) (liA pn cn (l0 M y) t) (u + 1)).1)) _ from by rw [hs]; exact hP) hV ls (lv_sub hl [0, 2, 3, 4, 5] (show ([(4, .int (nI ((8 * (r / 8 + 1) + u) + 1))), (2, .int (nI ((liK pn r (8 * (r / 8 + 1)) (liA pn cn (l0 M y) t) u).2))), (3, .int (nI t)), (0, .ref (xa x 38)), (1, .int (nI y))] : List (Nat × Value)) = [(4, .int (nI (8 * (r / 8 + 1) + (u + 1)))), (2, .int (nI ((liK pn r (8 * (r / 8 + 1)) (liA pn cn (l0 M y) t) (u + 1)).2))), (3, .int (nI t)), (0, .ref (xa x 38)), (1, .int (nI y))] from by rw [hs]; rfl))
                      · -- on
                        have his := c_4
                        simp only [Bool.and_eq_true, decide_eq_true_eq] at his
                        obtain ⟨his1, his2⟩ := his
                        refine lv_aload_n hx hb dX3_lifts_114 rfl (lv_at hl 4 rfl) ?_
                        refine lv_aload_n hx hb dX3_lifts_115 rfl (lv_at hl 4 rfl) ?_
                        refine g_get (C := RX3) (T := TX3) (N := 22) (v := .ref (xa x 55)) hx hb hts hinX3 hown hS hP (id := 38) (by decide) rfl rfl 21 (by decide) hw_f59 rfl dX3_lifts_116 ?_
                        refine lv_iload_n hx hb dX3_lifts_119 rfl (lv_at hl 3 rfl) ?_
                        refine g_iald (j := t) hx hb hS hP (id := 55) (by omega) ((fun _ => rfl) _) (by decide) rfl (by omega) dX3_lifts_120 ?_
                        rw [hrk]
                        refine lv_iload hx hb dX3_lifts_121 (lv_at hl 1 rfl) ?_
                        refine g_call1 (va_runV (As := [.int (nI r), .int (nI (8 * (r / 8 + 1) + u))]) (rest := []) ⟨hx, hb, hml, hown, hts⟩ (c_X3_doCross l x ((liK pn r (8 * (r / 8 + 1)) (liA pn cn (l0 M y) t) u).1) r (8 * (r / 8 + 1) + u) (by omega) (by omega)) (cwV 2 hts gX3_lifts_X3_doCross rfl rfl rfl (by decide +kernel) ⟨Nat.le_of_ble_eq_true rfl, Nat.le_of_ble_eq_true rfl⟩) (g_preV hS hZ hP hV [.int (nI r), .int (nI (8 * (r / 8 + 1) + u))] (id := 38) (by decide) rfl rfl) rfl rfl hl.1 rfl (lv_room (Nat.le_of_ble_eq_true rfl)) dX3_lifts_123 ⟨Nat.le_of_ble_eq_true rfl, Nat.le_of_ble_eq_true rfl⟩) hV (fun H locs hP hV => ?_)
                        refine h_if_eq_b (tgt := 148) hx hb dX3_lifts_126 (by decide) (fun c_5 => ?_) (fun c_5 => ?_)
                        · -- taken
                          refine lv_iinc (v := nI ((8 * (r / 8 + 1) + u) + 1)) (lv' := [(4, .int (nI ((8 * (r / 8 + 1) + u) + 1))), (5, .int (bI (decide ((8 * (r / 8 + 1) + u) % 8 < pn ((8 * (r / 8 + 1) + u) / 8)) && decide ((liK pn r (8 * (r / 8 + 1)) (liA pn cn (l0 M y) t) u).1 54 (8 * (r / 8 + 1) + u) = 0)))), (2, .int (nI ((liK pn r (8 * (r / 8 + 1)) (liA pn cn (l0 M y) t) u).2))), (3, .int (nI t)), (0, .ref (xa x 38)), (1, .int (nI y))]) hx hb dX3_lifts_148 hl (k := 1) rfl (nI_add (8 * (r / 8 + 1) + u) 1) (by decide) rfl (fun ls hl => ?_)
                          refine lv_goto (tgt := 60) hx hb dX3_lifts_151 (by decide) ?_
                          have hs : liK pn r (8 * (r / 8 + 1)) (liA pn cn (l0 M y) t) (u + 1) = liK pn r (8 * (r / 8 + 1)) (liA pn cn (l0 M y) t) u := by rw [liK, liI, if_neg (by simp only [liC, Bool.and_eq_true]; intro z; exact absurd (z.2.symm.trans c_5) (by decide))]
                          exact ih_60 (u + 1) (by omega) (by omega)  _ _ (show va_P (xD x) vwCl (wAll x ((liK pn r (8 * (r / 8 + 1)) (liA pn cn (l0 M y) t) (u + 1)).1)) _ from by rw [hs]; exact hP) hV ls (lv_sub hl [0, 2, 3, 4, 5] (show ([(4, .int (nI ((8 * (r / 8 + 1) + u) + 1))), (2, .int (nI ((liK pn r (8 * (r / 8 + 1)) (liA pn cn (l0 M y) t) u).2))), (3, .int (nI t)), (0, .ref (xa x 38)), (1, .int (nI y))] : List (Nat × Value)) = [(4, .int (nI (8 * (r / 8 + 1) + (u + 1)))), (2, .int (nI ((liK pn r (8 * (r / 8 + 1)) (liA pn cn (l0 M y) t) (u + 1)).2))), (3, .int (nI t)), (0, .ref (xa x 38)), (1, .int (nI y))] from by rw [hs]; rfl))
                        · -- on
                          refine lv_aload_n hx hb dX3_lifts_129 rfl (lv_at hl 4 rfl) ?_
                          refine g_get (C := RX3) (T := TX3) (N := 22) (v := .ref (xa x 54)) hx hb hts hinX3 hown hS hP (id := 38) (by decide) rfl rfl 20 (by decide) hw_f56 rfl dX3_lifts_130 ?_
                          refine lv_iload hx hb dX3_lifts_133 (lv_at hl 1 rfl) ?_
                          refine lv_iconst (v := 1) hx hb dX3_lifts_135 (by decide) ?_
                          refine g_zast (j := 8 * (r / 8 + 1) + u) hx hb hS hP hV (id := 54) (by omega) (fun _ => rfl) (by decide) rfl (by omega) (by decide) dX3_lifts_136 (fun H locs hP hV => ?_)
                          refine lv_aload_n hx hb dX3_lifts_137 rfl (lv_at hl 4 rfl) ?_
                          refine g_get (C := RX3) (T := TX3) (N := 22) (v := .ref (xa x 55)) hx hb hts hinX3 hown hS hP (id := 38) (by decide) rfl rfl 21 (by decide) hw_f59 rfl dX3_lifts_138 ?_
                          refine lv_iload_n hx hb dX3_lifts_141 rfl (lv_at hl 2 rfl) ?_
                          refine lv_iload hx hb dX3_lifts_142 (lv_at hl 1 rfl) ?_
                          refine g_iast (j := (liK pn r (8 * (r / 8 + 1)) (liA pn cn (l0 M y) t) u).2) hx hb hS hP hV (id := 55) (by omega) (fun _ => rfl) (by decide) rfl (by omega) dX3_lifts_144 (fun H locs hP hV => ?_)
                          refine lv_iinc (v := nI (((liK pn r (8 * (r / 8 + 1)) (liA pn cn (l0 M y) t) u).2) + 1)) (lv' := [(2, .int (nI (((liK pn r (8 * (r / 8 + 1)) (liA pn cn (l0 M y) t) u).2) + 1))), (5, .int (bI (decide ((8 * (r / 8 + 1) + u) % 8 < pn ((8 * (r / 8 + 1) + u) / 8)) && decide ((liK pn r (8 * (r / 8 + 1)) (liA pn cn (l0 M y) t) u).1 54 (8 * (r / 8 + 1) + u) = 0)))), (4, .int (nI (8 * (r / 8 + 1) + u))), (3, .int (nI t)), (0, .ref (xa x 38)), (1, .int (nI y))]) hx hb dX3_lifts_145 hl (k := 2) rfl (nI_add ((liK pn r (8 * (r / 8 + 1)) (liA pn cn (l0 M y) t) u).2) 1) (by decide) rfl (fun ls hl => ?_)
                          refine lv_iinc (v := nI ((8 * (r / 8 + 1) + u) + 1)) (lv' := [(4, .int (nI ((8 * (r / 8 + 1) + u) + 1))), (2, .int (nI (((liK pn r (8 * (r / 8 + 1)) (liA pn cn (l0 M y) t) u).2) + 1))), (5, .int (bI (decide ((8 * (r / 8 + 1) + u) % 8 < pn ((8 * (r / 8 + 1) + u) / 8)) && decide ((liK pn r (8 * (r / 8 + 1)) (liA pn cn (l0 M y) t) u).1 54 (8 * (r / 8 + 1) + u) = 0)))), (3, .int (nI t)), (0, .ref (xa x 38)), (1, .int (nI y))]) hx hb dX3_lifts_148 hl (k := 2) rfl (nI_add (8 * (r / 8 + 1) + u) 1) (by decide) rfl (fun ls hl => ?_)
                          refine lv_goto (tgt := 60) hx hb dX3_lifts_151 (by decide) ?_
                          have hs : liK pn r (8 * (r / 8 + 1)) (liA pn cn (l0 M y) t) (u + 1) = (up2 (up2 (liK pn r (8 * (r / 8 + 1)) (liA pn cn (l0 M y) t) u).1 54 (8 * (r / 8 + 1) + u) 1) 55 (liK pn r (8 * (r / 8 + 1)) (liA pn cn (l0 M y) t) u).2 (nI (8 * (r / 8 + 1) + u)), (liK pn r (8 * (r / 8 + 1)) (liA pn cn (l0 M y) t) u).2 + 1) := by rw [liK, liI, if_pos (by simp only [liC, Bool.and_eq_true, decide_eq_true_eq]; exact ⟨⟨his1, his2⟩, c_5⟩)]
                          exact ih_60 (u + 1) (by omega) (by omega)  _ _ (show va_P (xD x) vwCl (wAll x ((liK pn r (8 * (r / 8 + 1)) (liA pn cn (l0 M y) t) (u + 1)).1)) _ from by rw [hs]; exact hP) hV ls (lv_sub hl [0, 1, 3, 4, 5] (show ([(4, .int (nI ((8 * (r / 8 + 1) + u) + 1))), (2, .int (nI (((liK pn r (8 * (r / 8 + 1)) (liA pn cn (l0 M y) t) u).2) + 1))), (3, .int (nI t)), (0, .ref (xa x 38)), (1, .int (nI y))] : List (Nat × Value)) = [(4, .int (nI (8 * (r / 8 + 1) + (u + 1)))), (2, .int (nI ((liK pn r (8 * (r / 8 + 1)) (liA pn cn (l0 M y) t) (u + 1)).2))), (3, .int (nI t)), (0, .ref (xa x 38)), (1, .int (nI y))] from by rw [hs]; rfl))
                    refine lv_iload hx hb dX3_lifts_72 (lv_at hl 0 rfl) ?_
                    refine lv_bipush (v := 8) hx hb dX3_lifts_74 (by decide) ?_
                    refine h_irem (v := nI ((8 * (r / 8 + 1) + u) % 8)) hx hb dX3_lifts_76 (h_div (a := 8 * (r / 8 + 1) + u) (d := 8) (by omega) (by omega) (by omega)).1 (h_div (a := 8 * (r / 8 + 1) + u) (d := 8) (by omega) (by omega) (by omega)).2.2 ?_
                    refine lv_aload_n hx hb dX3_lifts_77 rfl (lv_at hl 3 rfl) ?_
                    refine g_get (C := RX3) (T := TX3) (N := 22) (v := .ref (xa x 41)) hx hb hts hinX3 hown hS hP (id := 38) (by decide) rfl rfl 5 (by decide) hw_f16 rfl dX3_lifts_78 ?_
                    refine lv_iload hx hb dX3_lifts_81 (lv_at hl 0 rfl) ?_
                    refine lv_bipush (v := 8) hx hb dX3_lifts_83 (by decide) ?_
                    refine h_idiv (v := nI ((8 * (r / 8 + 1) + u) / 8)) hx hb dX3_lifts_85 (h_div (a := 8 * (r / 8 + 1) + u) (d := 8) (by omega) (by omega) (by omega)).1 (h_div (a := 8 * (r / 8 + 1) + u) (d := 8) (by omega) (by omega) (by omega)).2.1 ?_
                    refine g_iald (j := (8 * (r / 8 + 1) + u) / 8) hx hb hS hP (id := 41) (by omega) ((fun _ => rfl) _) (by decide) rfl (by omega) dX3_lifts_86 ?_
                    rw [(hMk.p (by omega))]
                    refine lv_iconst (v := 1) hx hb dX3_lifts_87 (by decide) ?_
                    refine h_isub (v := nI (pn ((8 * (r / 8 + 1) + u) / 8))) hx hb dX3_lifts_88 (h_sub (pn ((8 * (r / 8 + 1) + u) / 8)) 1) ?_
                    refine h_icmp_ge_n (a := (8 * (r / 8 + 1) + u) % 8) (b := pn ((8 * (r / 8 + 1) + u) / 8)) (tgt := 106) hx hb (by omega) (by omega) dX3_lifts_89 (by decide) (fun c_6 => ?_) (fun c_6 => ?_)
                    · -- taken
                      refine lv_iconst (v := 0) hx hb dX3_lifts_106 (by decide) ?_
                      exact J_107 _ (by have hb1 := c_6; simp [bI, c_3, c_6] <;> omega) _ _ hP hV ls hl
                    · -- on
                      refine lv_aload_n hx hb dX3_lifts_92 rfl (lv_at hl 3 rfl) ?_
                      refine g_get (C := RX3) (T := TX3) (N := 22) (v := .ref (xa x 54)) hx hb hts hinX3 hown hS hP (id := 38) (by decide) rfl rfl 20 (by decide) hw_f56 rfl dX3_lifts_93 ?_
                      refine lv_iload hx hb dX3_lifts_96 (lv_at hl 0 rfl) ?_
                      refine g_zald (j := 8 * (r / 8 + 1) + u) hx hb hS hP (id := 54) (by omega) ((fun _ => rfl) _) (by decide) rfl (by omega) dX3_lifts_98 ?_
                      refine lv_if_ne (tgt := 106) hx hb dX3_lifts_99 (by decide) (fun c_7 => ?_) (fun c_7 => ?_)
                      · -- taken
                        refine lv_iconst (v := 0) hx hb dX3_lifts_106 (by decide) ?_
                        exact J_107 _ (by have hb1 := c_7; simp [bI, c_6, c_7] <;> omega) _ _ hP hV ls hl
                      · -- on
                        refine lv_iconst (v := 1) hx hb dX3_lifts_102 (by decide) ?_
                        refine lv_goto (tgt := 107) hx hb dX3_lifts_103 (by decide) ?_
                        exact J_107 _ (by have hb1 := c_7; simp [bI, c_6, c_7] <;> omega) _ _ hP hV ls hl
              exact lp_60 ((8 * cn - 8 * (r / 8 + 1)) - (0) + 1) (0) (by omega) (by omega)  _ _ (show va_P (xD x) vwCl (wAll x ((liK pn r (8 * (r / 8 + 1)) (liA pn cn (l0 M y) t) 0).1)) _ from by exact hP) hV ls (lv_sub hl [0, 2, 1, 3, 4] (show ([(4, .int (nI (8 * ((r / 8) + 1)))), (2, .int (nI ((liA pn cn (l0 M y) t).2))), (3, .int (nI t)), (0, .ref (xa x 38)), (1, .int (nI y))] : List (Nat × Value)) = [(4, .int (nI (8 * (r / 8 + 1) + 0))), (2, .int (nI ((liK pn r (8 * (r / 8 + 1)) (liA pn cn (l0 M y) t) 0).2))), (3, .int (nI t)), (0, .ref (xa x 38)), (1, .int (nI y))] from by rfl))
        exact lp_39 (64 - (0) + 1) (0) (by omega) (by omega)  _ _ (show va_P (xD x) vwCl (wAll x ((liA pn cn (l0 M y) 0).1)) _ from by exact hP) hV ls (lv_sub hl [0, 1, 2, 3] (show ([(3, .int 0), (2, .int 1), (0, .ref (xa x 38)), (1, .int (nI y))] : List (Nat × Value)) = [(3, .int 0), (2, .int (nI ((liA pn cn (l0 M y) 0).2))), (0, .ref (xa x 38)), (1, .int (nI y))] from by rfl))
      · -- on
        refine lv_aload_n hx hb dX3_lifts_8 rfl (lv_at hl 1 rfl) ?_
        refine g_get (C := RX3) (T := TX3) (N := 22) (v := .ref (xa x 54)) hx hb hts hinX3 hown hS hP (id := 38) (by decide) rfl rfl 20 (by decide) hw_f56 rfl dX3_lifts_9 ?_
        refine lv_iload_n hx hb dX3_lifts_12 rfl (lv_at hl 0 rfl) ?_
        refine lv_iconst (v := 0) hx hb dX3_lifts_13 (by decide) ?_
        refine g_zast (j := k) hx hb hS hP hV (id := 54) (by omega) (fun _ => rfl) (by decide) rfl (by omega) (by decide) dX3_lifts_14 (fun H locs hP hV => ?_)
        refine lv_iinc (v := nI (k + 1)) (lv' := [(2, .int (nI (k + 1))), (0, .ref (xa x 38)), (1, .int (nI y))]) hx hb dX3_lifts_15 hl (k := 0) rfl (nI_add (k) 1) (by decide) rfl (fun ls hl => ?_)
        refine lv_goto (tgt := 2) hx hb dX3_lifts_18 (by decide) ?_
        exact ih_2 (k + 1) (by omega) (by omega)  _ _ (show va_P (xD x) vwCl (wAll x (clL M (k + 1))) _ from by exact hP) hV ls (lv_sub hl [0, 1, 2] rfl)
  exact lp_2 (64 - (0) + 1) (0) (by omega) (by omega)  _ _ (show va_P (xD x) vwCl (wAll x (clL M 0)) _ from by exact hP) hV ls (lv_sub hl [0, 1, 2] rfl)
set_option maxHeartbeats 4000000 in
set_option maxRecDepth 100000 in
theorem c_X3_isPossible (l : Launch) (x : Cx) (M : Nat → Nat → Int32) (cn gn dn : Nat) (pn : Nat → Nat) (n : Nat) (hM : OkM M cn gn dn pn) (hn : n ≤ 63) (hR : RowsIn M cn pn n) : Met l yX3_isPossible wsX3_isPossible ({ frames := 6, cells := 0, slots := 0, locals := 152 }) (gP x M [.ref (xa x 38), .int (nI n)]) (gQ x (some (.int (bI (ipM M pn n)))) M) 0 0 (gF x) := by
  refine g_met (cc := cX3_isPossible) (maxL := 5) (ret := some .boolean) (by decide) rfl (Nat.le_of_ble_eq_true rfl) ?_
  intro p e s m below meth c hx hb hr hml hts hown hlk hS hZ hP hV ls hl
  have hl : lv_has ls 5 [(0, .ref (xa x 38)), (1, .int (nI n))] := hl
  have hw_f59 := hts (.fieldLink RX3 59 "CableOfficeModel" "row" "[I") (by decide +kernel)
  have hinX3 : ∀ w ∈ wsX30, w ∈ wsX3_isPossible := by decide +kernel
  have hc8 := hM.c8
  have hg5 := hM.g5
  have hd8 := hM.d8
  have h7 : P7 cn pn := hM.pp
  have hnn : n * n ≤ 3969 := Nat.mul_le_mul hn hn
  refine lv_iconst (v := 0) hx hb dX3_isPossible_0 (by decide) ?_
  refine lv_istore_n (lv' := [(2, .int 0), (0, .ref (xa x 38)), (1, .int (nI n))]) hx hb dX3_isPossible_1 rfl hl (by decide) rfl (fun ls hl => ?_)
  have lp_2 : ∀ (nn k : Nat), (n * n) - k < nn → k ≤ (n * n) → anyB (pbM M pn n) k = false → ∀ (H : Heap) (locs : List Loc), va_P (xD x) vwCl (wAll x M) H → va_S (gF x) s.heap H locs → ∀ ls : Array Slot, lv_has ls 5 [(2, .int (nI k)), (0, .ref (xa x 38)), (1, .int (nI n))] → W p l e ({ frames := 6, cells := 0, slots := 0, locals := 152 }) s m ([.ref (xa x 38), .int (nI n)] : List Value).toArray below meth c H locs 0 0 (MQ below (gQ x (some (.int (bI (ipM M pn n)))) M) ([.ref (xa x 38), .int (nI n)] : List Value).toArray s 0 0 (gF x)) (F0 m 2 ls []) := by
    intro nn
    induction nn with
    | zero => intro k hz; exact absurd hz (Nat.not_lt_zero _)
    | succ nn ih_2 =>
      intro k hf_2 hk_2 hf H locs hP hV ls hl
      refine lv_iload_n hx hb dX3_isPossible_2 rfl (lv_at hl 0 rfl) ?_
      refine lv_iload_n hx hb dX3_isPossible_3 rfl (lv_at hl 2 rfl) ?_
      refine lv_iload_n hx hb dX3_isPossible_4 rfl (lv_at hl 2 rfl) ?_
      refine h_imul (v := nI (n * n)) hx hb dX3_isPossible_5 (pk_mul (n) (n)) ?_
      refine h_icmp_ge_n (a := k) (b := n * n) (tgt := 74) hx hb (by omega) (by omega) dX3_isPossible_6 (by decide) (fun c_1 => ?_) (fun c_1 => ?_)
      · -- taken
        refine lv_iconst (v := 1) hx hb dX3_isPossible_74 (by decide) ?_
        exact g_zret hx hb hr hlk hS hZ hP hV (Nat.le_of_ble_eq_true rfl) (Nat.le_of_ble_eq_true rfl) dX3_isPossible_75 (by decide) (by have hkk : k = n * n := (by omega); subst hkk; simp [ipM, bI, hf]) (by rfl)
      · -- on
        have hn0 : 0 < n := Nat.pos_of_ne_zero (fun z => by subst z; omega)
        have hd1 : k / n < n := Nat.div_lt_of_lt_mul (by omega)
        have hd2 : k % n < n := Nat.mod_lt _ hn0
        obtain ⟨r1, hr1, hq1⟩ := hR _ hd1
        obtain ⟨r2, hr2, hq2⟩ := hR _ hd2
        have hb1 := okP_lt hc8 h7 hq1
        have hb2 := okP_lt hc8 h7 hq2
        have hv1 := hq1.1
        have hv2 := hq2.1
        have e1 : tn (M 55 (k / n)) = r1 := by rw [hr1, tn_nI (by omega)]
        have e2 : tn (M 55 (k % n)) = r2 := by rw [hr2, tn_nI (by omega)]
        refine lv_aload_n hx hb dX3_isPossible_9 rfl (lv_at hl 1 rfl) ?_
        refine g_get (C := RX3) (T := TX3) (N := 22) (v := .ref (xa x 55)) hx hb hts hinX3 hown hS hP (id := 38) (by decide) rfl rfl 21 (by decide) hw_f59 rfl dX3_isPossible_10 ?_
        refine lv_iload_n hx hb dX3_isPossible_13 rfl (lv_at hl 0 rfl) ?_
        refine lv_iload_n hx hb dX3_isPossible_14 rfl (lv_at hl 2 rfl) ?_
        refine h_idiv (v := nI (k / n)) hx hb dX3_isPossible_15 (h_div (a := k) (d := n) (by omega) (by omega) (by omega)).1 (h_div (a := k) (d := n) (by omega) (by omega) (by omega)).2.1 ?_
        refine g_iald (j := k / n) hx hb hS hP (id := 55) (by omega) ((fun _ => rfl) _) (by decide) rfl (by omega) dX3_isPossible_16 ?_
        rw [hr1]
        refine lv_istore_n (lv' := [(3, .int (nI r1)), (2, .int (nI k)), (0, .ref (xa x 38)), (1, .int (nI n))]) hx hb dX3_isPossible_17 rfl hl (by decide) rfl (fun ls hl => ?_)
        refine lv_aload_n hx hb dX3_isPossible_18 rfl (lv_at hl 2 rfl) ?_
        refine g_get (C := RX3) (T := TX3) (N := 22) (v := .ref (xa x 55)) hx hb hts hinX3 hown hS hP (id := 38) (by decide) rfl rfl 21 (by decide) hw_f59 rfl dX3_isPossible_19 ?_
        refine lv_iload_n hx hb dX3_isPossible_22 rfl (lv_at hl 1 rfl) ?_
        refine lv_iload_n hx hb dX3_isPossible_23 rfl (lv_at hl 3 rfl) ?_
        refine h_irem (v := nI (k % n)) hx hb dX3_isPossible_24 (h_div (a := k) (d := n) (by omega) (by omega) (by omega)).1 (h_div (a := k) (d := n) (by omega) (by omega) (by omega)).2.2 ?_
        refine g_iald (j := k % n) hx hb hS hP (id := 55) (by omega) ((fun _ => rfl) _) (by decide) rfl (by omega) dX3_isPossible_25 ?_
        rw [hr2]
        refine lv_istore (lv' := [(4, .int (nI r2)), (3, .int (nI r1)), (2, .int (nI k)), (0, .ref (xa x 38)), (1, .int (nI n))]) hx hb dX3_isPossible_26 hl (by decide) rfl (fun ls hl => ?_)
        refine lv_iload_n hx hb dX3_isPossible_28 rfl (lv_at hl 1 rfl) ?_
        refine lv_bipush (v := 8) hx hb dX3_isPossible_29 (by decide) ?_
        refine h_idiv (v := nI (r1 / 8)) hx hb dX3_isPossible_31 (h_div (a := r1) (d := 8) (by omega) (by omega) (by omega)).1 (h_div (a := r1) (d := 8) (by omega) (by omega) (by omega)).2.1 ?_
        refine lv_iload hx hb dX3_isPossible_32 (lv_at hl 0 rfl) ?_
        refine lv_bipush (v := 8) hx hb dX3_isPossible_34 (by decide) ?_
        refine h_idiv (v := nI (r2 / 8)) hx hb dX3_isPossible_36 (h_div (a := r2) (d := 8) (by omega) (by omega) (by omega)).1 (h_div (a := r2) (d := 8) (by omega) (by omega) (by omega)).2.1 ?_
        refine h_icmp_eq_n (a := r1 / 8) (b := r2 / 8) (tgt := 68) hx hb (by omega) (by omega) dX3_isPossible_37 (by decide) (fun c_2 => ?_) (fun c_2 => ?_)
        · -- taken
          refine lv_iinc (v := nI (k + 1)) (lv' := [(2, .int (nI (k + 1))), (4, .int (nI r2)), (3, .int (nI r1)), (0, .ref (xa x 38)), (1, .int (nI n))]) hx hb dX3_isPossible_68 hl (k := 2) rfl (nI_add (k) 1) (by decide) rfl (fun ls hl => ?_)
          refine lv_goto (tgt := 2) hx hb dX3_isPossible_71 (by decide) ?_
          exact ih_2 (k + 1) (by omega) (by omega) (by exact anyB_f hf (by simp [pbM, e1, e2, c_2])) _ _ hP hV ls (lv_sub hl [0, 3, 4] rfl)
        · -- on
          refine lv_aload_n hx hb dX3_isPossible_40 rfl (lv_at hl 3 rfl) ?_
          refine lv_iload_n hx hb dX3_isPossible_41 rfl (lv_at hl 1 rfl) ?_
          refine lv_iload hx hb dX3_isPossible_42 (lv_at hl 0 rfl) ?_
          refine g_call1 (va_runV (As := [.int (nI r1), .int (nI r2)]) (rest := []) ⟨hx, hb, hml, hown, hts⟩ (c_X3_doCross l x M r1 r2 (by omega) (by omega)) (cwV 2 hts gX3_isPossible_X3_doCross rfl rfl rfl (by decide +kernel) ⟨Nat.le_of_ble_eq_true rfl, Nat.le_of_ble_eq_true rfl⟩) (g_preV hS hZ hP hV [.int (nI r1), .int (nI r2)] (id := 38) (by decide) rfl rfl) rfl rfl hl.1 rfl (lv_room (Nat.le_of_ble_eq_true rfl)) dX3_isPossible_44 ⟨Nat.le_of_ble_eq_true rfl, Nat.le_of_ble_eq_true rfl⟩) hV (fun H locs hP hV => ?_)
          refine h_if_eq_b (tgt := 68) hx hb dX3_isPossible_47 (by decide) (fun c_3 => ?_) (fun c_3 => ?_)
          · -- taken
            refine lv_iinc (v := nI (k + 1)) (lv' := [(2, .int (nI (k + 1))), (4, .int (nI r2)), (3, .int (nI r1)), (0, .ref (xa x 38)), (1, .int (nI n))]) hx hb dX3_isPossible_68 hl (k := 2) rfl (nI_add (k) 1) (by decide) rfl (fun ls hl => ?_)
            refine lv_goto (tgt := 2) hx hb dX3_isPossible_71 (by decide) ?_
            exact ih_2 (k + 1) (by omega) (by omega) (by exact anyB_f hf (by simp [pbM, e1, e2, c_2, c_3])) _ _ hP hV ls (lv_sub hl [0, 3, 4] rfl)
          · -- on
            refine lv_aload_n hx hb dX3_isPossible_50 rfl (lv_at hl 3 rfl) ?_
            refine lv_iload_n hx hb dX3_isPossible_51 rfl (lv_at hl 1 rfl) ?_
            refine lv_bipush (v := 8) hx hb dX3_isPossible_52 (by decide) ?_
            refine h_idiv (v := nI (r1 / 8)) hx hb dX3_isPossible_54 (h_div (a := r1) (d := 8) (by omega) (by omega) (by omega)).1 (h_div (a := r1) (d := 8) (by omega) (by omega) (by omega)).2.1 ?_
            refine lv_iload hx hb dX3_isPossible_55 (lv_at hl 0 rfl) ?_
            refine lv_bipush (v := 8) hx hb dX3_isPossible_57 (by decide) ?_
            refine h_idiv (v := nI (r2 / 8)) hx hb dX3_isPossible_59 (h_div (a := r2) (d := 8) (by omega) (by omega) (by omega)).1 (h_div (a := r2) (d := 8) (by omega) (by omega) (by omega)).2.1 ?_
            refine g_call1 (va_runV (As := [.int (nI (r1 / 8)), .int (nI (r2 / 8))]) (rest := []) ⟨hx, hb, hml, hown, hts⟩ (c_X3_isBare l x M cn gn dn pn (r1 / 8) (r2 / 8) hM (by omega) (by omega)) (cwV 2 hts gX3_isPossible_X3_isBare rfl rfl rfl (by decide +kernel) ⟨Nat.le_of_ble_eq_true rfl, Nat.le_of_ble_eq_true rfl⟩) (g_preV hS hZ hP hV [.int (nI (r1 / 8)), .int (nI (r2 / 8))] (id := 38) (by decide) rfl rfl) rfl rfl hl.1 rfl (lv_room (Nat.le_of_ble_eq_true rfl)) dX3_isPossible_60 ⟨Nat.le_of_ble_eq_true rfl, Nat.le_of_ble_eq_true rfl⟩) hV (fun H locs hP hV => ?_)
            refine h_if_eq_b (tgt := 68) hx hb dX3_isPossible_63 (by decide) (fun c_4 => ?_) (fun c_4 => ?_)
            · -- taken
              refine lv_iinc (v := nI (k + 1)) (lv' := [(2, .int (nI (k + 1))), (4, .int (nI r2)), (3, .int (nI r1)), (0, .ref (xa x 38)), (1, .int (nI n))]) hx hb dX3_isPossible_68 hl (k := 2) rfl (nI_add (k) 1) (by decide) rfl (fun ls hl => ?_)
              refine lv_goto (tgt := 2) hx hb dX3_isPossible_71 (by decide) ?_
              exact ih_2 (k + 1) (by omega) (by omega) (by exact anyB_f hf (by simp [pbM, e1, e2, c_2, c_3, c_4])) _ _ hP hV ls (lv_sub hl [0, 3, 4] rfl)
            · -- on
              refine lv_iconst (v := 0) hx hb dX3_isPossible_66 (by decide) ?_
              exact g_zret hx hb hr hlk hS hZ hP hV (Nat.le_of_ble_eq_true rfl) (Nat.le_of_ble_eq_true rfl) dX3_isPossible_67 (by decide) (by have hz : anyB (pbM M pn n) (n * n) = true := (anyB_of c_1 (by simp [pbM, e1, e2, c_2, c_3, c_4])); simp [ipM, bI, hz]) (by rfl)
  exact lp_2 ((n * n) - (0) + 1) (0) (by omega) (by omega) (by rfl) _ _ hP hV ls (lv_sub hl [0, 1, 2] rfl)
set_option maxHeartbeats 4000000 in
set_option maxRecDepth 100000 in
theorem c_X3_isTouched (l : Launch) (x : Cx) (M : Nat → Nat → Int32) (cn gn dn : Nat) (pn : Nat → Nat) (g : Nat) (mo : Int32) (n : Nat) (hM : OkM M cn gn dn pn) (hg : g < 5) (hn : n ≤ 63) (hR : RowsIn M cn pn n) : Met l yX3_isTouched wsX3_isTouched ({ frames := 4, cells := 0, slots := 0, locals := 111 }) (gP x M [.ref (xa x 38), .int (nI g), .int mo, .int (nI n)]) (gQ x (some (.int (bI (itM M g mo n)))) M) 0 0 (gF x) := by
  refine g_met (cc := cX3_isTouched) (maxL := 5) (ret := some .boolean) (by decide) rfl (Nat.le_of_ble_eq_true rfl) ?_
  intro p e s m below meth c hx hb hr hml hts hown hlk hS hZ hP hV ls hl
  have hl : lv_has ls 5 [(0, .ref (xa x 38)), (1, .int (nI g)), (2, .int mo), (3, .int (nI n))] := hl
  have hw_f59 := hts (.fieldLink RX3 59 "CableOfficeModel" "row" "[I") (by decide +kernel)
  have hinX3 : ∀ w ∈ wsX30, w ∈ wsX3_isTouched := by decide +kernel
  have hc8 := hM.c8
  have hg5 := hM.g5
  have hd8 := hM.d8
  have h7 : P7 cn pn := hM.pp
  refine lv_iconst (v := 0) hx hb dX3_isTouched_0 (by decide) ?_
  refine lv_istore (lv' := [(4, .int 0), (0, .ref (xa x 38)), (1, .int (nI g)), (2, .int mo), (3, .int (nI n))]) hx hb dX3_isTouched_1 hl (by decide) rfl (fun ls hl => ?_)
  have lp_3 : ∀ (nn k : Nat), n - k < nn → k ≤ n → anyB (ttM M g) k = false → ∀ (H : Heap) (locs : List Loc), va_P (xD x) vwCl (wAll x M) H → va_S (gF x) s.heap H locs → ∀ ls : Array Slot, lv_has ls 5 [(4, .int (nI k)), (0, .ref (xa x 38)), (1, .int (nI g)), (2, .int mo), (3, .int (nI n))] → W p l e ({ frames := 4, cells := 0, slots := 0, locals := 111 }) s m ([.ref (xa x 38), .int (nI g), .int mo, .int (nI n)] : List Value).toArray below meth c H locs 0 0 (MQ below (gQ x (some (.int (bI (itM M g mo n)))) M) ([.ref (xa x 38), .int (nI g), .int mo, .int (nI n)] : List Value).toArray s 0 0 (gF x)) (F0 m 3 ls []) := by
    intro nn
    induction nn with
    | zero => intro k hz; exact absurd hz (Nat.not_lt_zero _)
    | succ nn ih_3 =>
      intro k hf_3 hk_3 hf H locs hP hV ls hl
      refine lv_iload hx hb dX3_isTouched_3 (lv_at hl 0 rfl) ?_
      refine lv_iload_n hx hb dX3_isTouched_5 rfl (lv_at hl 4 rfl) ?_
      refine h_icmp_ge_n (a := k) (b := n) (tgt := 41) hx hb (by omega) (by omega) dX3_isTouched_6 (by decide) (fun c_1 => ?_) (fun c_1 => ?_)
      · -- taken
        refine lv_iconst (v := 0) hx hb dX3_isTouched_41 (by decide) ?_
        exact g_zret hx hb hr hlk hS hZ hP hV (Nat.le_of_ble_eq_true rfl) (Nat.le_of_ble_eq_true rfl) dX3_isTouched_42 (by decide) (by have hkk : k = n := (by omega); subst hkk; simp [itM, bI, hf]) (by rfl)
      · -- on
        obtain ⟨r1, hr1, hq1⟩ := hR _ (show k < n by omega)
        have hb1 := okP_lt hc8 h7 hq1
        have e1 : tn (M 55 k) = r1 := by rw [hr1, tn_nI (by omega)]
        refine lv_aload_n hx hb dX3_isTouched_9 rfl (lv_at hl 1 rfl) ?_
        refine lv_iload_n hx hb dX3_isTouched_10 rfl (lv_at hl 2 rfl) ?_
        refine lv_iload_n hx hb dX3_isTouched_11 rfl (lv_at hl 3 rfl) ?_
        refine g_call1 (va_runV (As := [.int (nI g), .int mo]) (rest := []) ⟨hx, hb, hml, hown, hts⟩ (c_X3_isClosedNow l x M g mo (by omega)) (cwV 2 hts gX3_isTouched_X3_isClosedNow rfl rfl rfl (by decide +kernel) ⟨Nat.le_of_ble_eq_true rfl, Nat.le_of_ble_eq_true rfl⟩) (g_preV hS hZ hP hV [.int (nI g), .int mo] (id := 38) (by decide) rfl rfl) rfl rfl hl.1 rfl (lv_room (Nat.le_of_ble_eq_true rfl)) dX3_isTouched_12 ⟨Nat.le_of_ble_eq_true rfl, Nat.le_of_ble_eq_true rfl⟩) hV (fun H locs hP hV => ?_)
        refine h_if_eq_b (tgt := 41) hx hb dX3_isTouched_15 (by decide) (fun c_2 => ?_) (fun c_2 => ?_)
        · -- taken
          refine lv_iconst (v := 0) hx hb dX3_isTouched_41 (by decide) ?_
          exact g_zret hx hb hr hlk hS hZ hP hV (Nat.le_of_ble_eq_true rfl) (Nat.le_of_ble_eq_true rfl) dX3_isTouched_42 (by decide) (by simp [itM, bI, c_2]) (by rfl)
        · -- on
          refine lv_aload_n hx hb dX3_isTouched_18 rfl (lv_at hl 1 rfl) ?_
          refine lv_aload_n hx hb dX3_isTouched_19 rfl (lv_at hl 1 rfl) ?_
          refine g_get (C := RX3) (T := TX3) (N := 22) (v := .ref (xa x 55)) hx hb hts hinX3 hown hS hP (id := 38) (by decide) rfl rfl 21 (by decide) hw_f59 rfl dX3_isTouched_20 ?_
          refine lv_iload hx hb dX3_isTouched_23 (lv_at hl 0 rfl) ?_
          refine g_iald (j := k) hx hb hS hP (id := 55) (by omega) ((fun _ => rfl) _) (by decide) rfl (by omega) dX3_isTouched_25 ?_
          rw [hr1]
          refine lv_iload_n hx hb dX3_isTouched_26 rfl (lv_at hl 2 rfl) ?_
          refine g_call1 (va_runV (As := [.int (nI r1), .int (nI g)]) (rest := []) ⟨hx, hb, hml, hown, hts⟩ (c_X3_doTouch l x M r1 g (by omega) (by omega)) (cwV 2 hts gX3_isTouched_X3_doTouch rfl rfl rfl (by decide +kernel) ⟨Nat.le_of_ble_eq_true rfl, Nat.le_of_ble_eq_true rfl⟩) (g_preV hS hZ hP hV [.int (nI r1), .int (nI g)] (id := 38) (by decide) rfl rfl) rfl rfl hl.1 rfl (lv_room (Nat.le_of_ble_eq_true rfl)) dX3_isTouched_27 ⟨Nat.le_of_ble_eq_true rfl, Nat.le_of_ble_eq_true rfl⟩) hV (fun H locs hP hV => ?_)
          refine h_if_eq_b (tgt := 35) hx hb dX3_isTouched_30 (by decide) (fun c_3 => ?_) (fun c_3 => ?_)
          · -- taken
            refine lv_iinc (v := nI (k + 1)) (lv' := [(4, .int (nI (k + 1))), (0, .ref (xa x 38)), (1, .int (nI g)), (2, .int mo), (3, .int (nI n))]) hx hb dX3_isTouched_35 hl (k := 0) rfl (nI_add (k) 1) (by decide) rfl (fun ls hl => ?_)
            refine lv_goto (tgt := 3) hx hb dX3_isTouched_38 (by decide) ?_
            exact ih_3 (k + 1) (by omega) (by omega) (by exact anyB_f hf (by simp [ttM, e1, c_3])) _ _ hP hV ls (lv_sub hl [0, 1, 2, 3, 4] rfl)
          · -- on
            refine lv_iconst (v := 1) hx hb dX3_isTouched_33 (by decide) ?_
            exact g_zret hx hb hr hlk hS hZ hP hV (Nat.le_of_ble_eq_true rfl) (Nat.le_of_ble_eq_true rfl) dX3_isTouched_34 (by decide) (by have hz : anyB (ttM M g) n = true := (anyB_of (k := k) (by omega) (by simp [ttM, e1, c_3])); simp [itM, bI, hz, c_2]) (by rfl)
  exact lp_3 (n - (0) + 1) (0) (by omega) (by omega) (by rfl) _ _ hP hV ls (lv_sub hl [0, 1, 2, 3, 4] rfl)
set_option maxHeartbeats 4000000 in
set_option maxRecDepth 100000 in
theorem c_X3_repaired (l : Launch) (x : Cx) (M : Nat → Nat → Int32) (cn gn dn : Nat) (pn : Nat → Nat) (y : Nat) (mo : Int32) (b : Bool) (hM : OkM M cn gn dn pn) (hy : okP cn pn y) : Met l yX3_repaired wsX3_repaired ({ frames := 7, cells := 0, slots := 0, locals := 176 }) (gP x M [.ref (xa x 38), .int (nI y), .int mo, .int (bI b)]) (gQ x (some (.int (rpR M pn cn gn y mo b))) (rpM M pn cn gn y mo b)) 0 0 (gF x) := by
  refine g_met (cc := cX3_repaired) (maxL := 8) (ret := some .int) (by decide) rfl (Nat.le_of_ble_eq_true rfl) ?_
  intro p e s m below meth c hx hb hr hml hts hown hlk hS hZ hP hV ls hl
  have hl : lv_has ls 8 [(0, .ref (xa x 38)), (1, .int (nI y)), (2, .int mo), (3, .int (bI b))] := hl
  have hw_f133 := hts (.fieldLink RX3 133 "CableOfficeModel" "grounds" "I") (by decide +kernel)
  have hinX3 : ∀ w ∈ wsX30, w ∈ wsX3_repaired := by decide +kernel
  have hw_f53 := hts (.fieldLink RX3 53 "CableOfficeModel" "paid" "[I") (by decide +kernel)
  have hc8 := hM.c8
  have hg5 := hM.g5
  have hd8 := hM.d8
  have h7 : P7 cn pn := hM.pp
  have hy63 := okP_lt hc8 h7 hy
  refine lv_aload_n hx hb dX3_repaired_0 rfl (lv_at hl 0 rfl) ?_
  refine lv_iload_n hx hb dX3_repaired_1 rfl (lv_at hl 1 rfl) ?_
  refine g_call1 (va_runV (As := [.int (nI y)]) (rest := []) ⟨hx, hb, hml, hown, hts⟩ (c_X3_lifts l x M cn gn dn pn y hM hy) (cwV 1 hts gX3_repaired_X3_lifts rfl rfl rfl (by decide +kernel) ⟨Nat.le_of_ble_eq_true rfl, Nat.le_of_ble_eq_true rfl⟩) (g_preV hS hZ hP hV [.int (nI y)] (id := 38) (by decide) rfl rfl) rfl rfl hl.1 rfl (lv_room (Nat.le_of_ble_eq_true rfl)) dX3_repaired_2 ⟨Nat.le_of_ble_eq_true rfl, Nat.le_of_ble_eq_true rfl⟩) hV (fun H locs hP hV => ?_)
  have hI := LF_inv (M := M) hc8 h7 hy
  have hML := hM.of hI.1
  have hn63 := hI.n63 hc8 h7
  have hR : RowsIn (LF M pn cn y).1 cn pn (LF M pn cn y).2 := fun t ht => ((hI.2.2.2.1 t ht).imp fun r z => ⟨z.1, z.2.1⟩)
  refine lv_istore (lv' := [(4, .int (nI ((LF M pn cn y).2))), (0, .ref (xa x 38)), (1, .int (nI y)), (2, .int mo), (3, .int (bI b))]) hx hb dX3_repaired_5 hl (by decide) rfl (fun ls hl => ?_)
  refine lv_aload_n hx hb dX3_repaired_7 rfl (lv_at hl 1 rfl) ?_
  refine lv_iload hx hb dX3_repaired_8 (lv_at hl 0 rfl) ?_
  refine g_call1 (va_runV (As := [.int (nI ((LF M pn cn y).2))]) (rest := []) ⟨hx, hb, hml, hown, hts⟩ (c_X3_isPossible l x ((LF M pn cn y).1) cn gn dn pn ((LF M pn cn y).2) hML hn63 hR) (cwV 1 hts gX3_repaired_X3_isPossible rfl rfl rfl (by decide +kernel) ⟨Nat.le_of_ble_eq_true rfl, Nat.le_of_ble_eq_true rfl⟩) (g_preV hS hZ hP hV [.int (nI ((LF M pn cn y).2))] (id := 38) (by decide) rfl rfl) rfl rfl hl.1 rfl (lv_room (Nat.le_of_ble_eq_true rfl)) dX3_repaired_10 ⟨Nat.le_of_ble_eq_true rfl, Nat.le_of_ble_eq_true rfl⟩) hV (fun H locs hP hV => ?_)
  refine h_if_ne_b (tgt := 18) hx hb dX3_repaired_13 (by decide) (fun c_1 => ?_) (fun c_1 => ?_)
  · -- taken
    have hpos := c_1
    refine lv_bipush (v := 10) hx hb dX3_repaired_18 (by decide) ?_
    refine lv_iload hx hb dX3_repaired_20 (lv_at hl 0 rfl) ?_
    refine h_imul (v := nI (10 * ((LF M pn cn y).2))) hx hb dX3_repaired_22 (pk_mul (10) ((LF M pn cn y).2)) ?_
    refine lv_istore (lv' := [(5, .int (nI (10 * ((LF M pn cn y).2)))), (4, .int (nI ((LF M pn cn y).2))), (0, .ref (xa x 38)), (1, .int (nI y)), (2, .int mo), (3, .int (bI b))]) hx hb dX3_repaired_23 hl (by decide) rfl (fun ls hl => ?_)
    refine lv_iconst (v := 0) hx hb dX3_repaired_25 (by decide) ?_
    refine lv_istore (lv' := [(6, .int 0), (5, .int (nI (10 * ((LF M pn cn y).2)))), (4, .int (nI ((LF M pn cn y).2))), (0, .ref (xa x 38)), (1, .int (nI y)), (2, .int mo), (3, .int (bI b))]) hx hb dX3_repaired_26 hl (by decide) rfl (fun ls hl => ?_)
    have lp_28 : ∀ (nn g : Nat), gn - g < nn → g ≤ gn → ∀ (H : Heap) (locs : List Loc), va_P (xD x) vwCl (wAll x (pdM (LF M pn cn y).1 (LF M pn cn y).2 mo b g)) H → va_S (gF x) s.heap H locs → ∀ ls : Array Slot, lv_has ls 8 [(6, .int (nI g)), (5, .int (smM (LF M pn cn y).1 (LF M pn cn y).2 mo b g)), (4, .int (nI ((LF M pn cn y).2))), (0, .ref (xa x 38)), (1, .int (nI y)), (2, .int mo), (3, .int (bI b))] → W p l e ({ frames := 7, cells := 0, slots := 0, locals := 176 }) s m ([.ref (xa x 38), .int (nI y), .int mo, .int (bI b)] : List Value).toArray below meth c H locs 0 0 (MQ below (gQ x (some (.int (rpR M pn cn gn y mo b))) (rpM M pn cn gn y mo b)) ([.ref (xa x 38), .int (nI y), .int mo, .int (bI b)] : List Value).toArray s 0 0 (gF x)) (F0 m 28 ls []) := by
      intro nn
      induction nn with
      | zero => intro g hz; exact absurd hz (Nat.not_lt_zero _)
      | succ nn ih_28 =>
        intro g hf_28 hk_28  H locs hP hV ls hl
        have hMg : OkM (pdM (LF M pn cn y).1 (LF M pn cn y).2 mo b g) cn gn dn pn := hML.keep (fun k _ _ => by rw [pdM_ne (by decide)]) (pdM_ne (by decide) g)
        have hRg : RowsIn (pdM (LF M pn cn y).1 (LF M pn cn y).2 mo b g) cn pn (LF M pn cn y).2 := by unfold RowsIn; rw [pdM_ne (by decide)]; exact hR
        refine lv_iload hx hb dX3_repaired_28 (lv_at hl 0 rfl) ?_
        refine lv_aload_n hx hb dX3_repaired_30 rfl (lv_at hl 3 rfl) ?_
        refine g_get (C := RX3) (T := TX3) (N := 22) (v := .int (nI gn)) hx hb hts hinX3 hown hS hP (id := 38) (by decide) rfl rfl 9 (by decide) hw_f133 (congrArg (fun z => some (Value.int z)) hMg.g) dX3_repaired_31 ?_
        refine h_icmp_ge_n (a := g) (b := gn) (tgt := 94) hx hb (by omega) (by omega) dX3_repaired_34 (by decide) (fun c_2 => ?_) (fun c_2 => ?_)
        · -- taken
          refine lv_iload hx hb dX3_repaired_94 (lv_at hl 1 rfl) ?_
          exact g_iret hx hb hr hlk hS hZ hP hV (Nat.le_of_ble_eq_true rfl) (Nat.le_of_ble_eq_true rfl) dX3_repaired_96 (by have hgg : g = gn := (by omega); subst hgg; simp [rpR, hpos]) (by have hgg : g = gn := (by omega); subst hgg; simp [rpM, hpos])
        · -- on
          have J_59 : ∀ v : Int32, v = ppM (pdM (LF M pn cn y).1 (LF M pn cn y).2 mo b g) (LF M pn cn y).2 mo g → ∀ (H : Heap) (locs : List Loc), va_P (xD x) vwCl (wAll x (pdM (LF M pn cn y).1 (LF M pn cn y).2 mo b g)) H → va_S (gF x) s.heap H locs → ∀ ls : Array Slot, lv_has ls 8 [(6, .int (nI g)), (5, .int (smM (LF M pn cn y).1 (LF M pn cn y).2 mo b g)), (4, .int (nI ((LF M pn cn y).2))), (0, .ref (xa x 38)), (1, .int (nI y)), (2, .int mo), (3, .int (bI b))] → W p l e ({ frames := 7, cells := 0, slots := 0, locals := 176 }) s m ([.ref (xa x 38), .int (nI y), .int mo, .int (bI b)] : List Value).toArray below meth c H locs 0 0 (MQ below (gQ x (some (.int (rpR M pn cn gn y mo b))) (rpM M pn cn gn y mo b)) ([.ref (xa x 38), .int (nI y), .int mo, .int (bI b)] : List Value).toArray s 0 0 (gF x)) (F0 m 59 ls (.int v :: [])) := by
            intro v hv H locs hP hV ls hl
            subst hv
            refine lv_istore (lv' := [(7, .int (ppM (pdM (LF M pn cn y).1 (LF M pn cn y).2 mo b g) (LF M pn cn y).2 mo g)), (6, .int (nI g)), (5, .int (smM (LF M pn cn y).1 (LF M pn cn y).2 mo b g)), (4, .int (nI ((LF M pn cn y).2))), (0, .ref (xa x 38)), (1, .int (nI y)), (2, .int mo), (3, .int (bI b))]) hx hb dX3_repaired_59 hl (by decide) rfl (fun ls hl => ?_)
            refine lv_iload hx hb dX3_repaired_61 (lv_at hl 2 rfl) ?_
            refine lv_iload hx hb dX3_repaired_63 (lv_at hl 0 rfl) ?_
            refine lv_iadd hx hb dX3_repaired_65 ?_
            refine lv_istore (lv' := [(5, .int ((smM (LF M pn cn y).1 (LF M pn cn y).2 mo b g) + (ppM (pdM (LF M pn cn y).1 (LF M pn cn y).2 mo b g) (LF M pn cn y).2 mo g))), (7, .int (ppM (pdM (LF M pn cn y).1 (LF M pn cn y).2 mo b g) (LF M pn cn y).2 mo g)), (6, .int (nI g)), (4, .int (nI ((LF M pn cn y).2))), (0, .ref (xa x 38)), (1, .int (nI y)), (2, .int mo), (3, .int (bI b))]) hx hb dX3_repaired_66 hl (by decide) rfl (fun ls hl => ?_)
            refine lv_aload_n hx hb dX3_repaired_68 rfl (lv_at hl 4 rfl) ?_
            refine g_get (C := RX3) (T := TX3) (N := 22) (v := .ref (xa x 53)) hx hb hts hinX3 hown hS hP (id := 38) (by decide) rfl rfl 18 (by decide) hw_f53 rfl dX3_repaired_69 ?_
            refine lv_iload hx hb dX3_repaired_72 (lv_at hl 2 rfl) ?_
            refine lv_dup2_11 hx hb dX3_repaired_74 rfl rfl ?_
            refine g_iald (j := g) hx hb hS hP (id := 53) (by omega) ((fun _ => rfl) _) (by decide) rfl (by omega) dX3_repaired_75 ?_
            have J_86 : ∀ v : Int32, v = (if b = true then ppM (pdM (LF M pn cn y).1 (LF M pn cn y).2 mo b g) (LF M pn cn y).2 mo g else 0 : Int32) → ∀ (H : Heap) (locs : List Loc), va_P (xD x) vwCl (wAll x (pdM (LF M pn cn y).1 (LF M pn cn y).2 mo b g)) H → va_S (gF x) s.heap H locs → ∀ ls : Array Slot, lv_has ls 8 [(5, .int ((smM (LF M pn cn y).1 (LF M pn cn y).2 mo b g) + (ppM (pdM (LF M pn cn y).1 (LF M pn cn y).2 mo b g) (LF M pn cn y).2 mo g))), (7, .int (ppM (pdM (LF M pn cn y).1 (LF M pn cn y).2 mo b g) (LF M pn cn y).2 mo g)), (6, .int (nI g)), (4, .int (nI ((LF M pn cn y).2))), (0, .ref (xa x 38)), (1, .int (nI y)), (2, .int mo), (3, .int (bI b))] → W p l e ({ frames := 7, cells := 0, slots := 0, locals := 176 }) s m ([.ref (xa x 38), .int (nI y), .int mo, .int (bI b)] : List Value).toArray below meth c H locs 0 0 (MQ below (gQ x (some (.int (rpR M pn cn gn y mo b))) (rpM M pn cn gn y mo b)) ([.ref (xa x 38), .int (nI y), .int mo, .int (bI b)] : List Value).toArray s 0 0 (gF x)) (F0 m 86 ls (.int v :: .int ((pdM (LF M pn cn y).1 (LF M pn cn y).2 mo b g) 53 g) :: .int (nI g) :: .ref (xa x 53) :: [])) := by
              intro v hv H locs hP hV ls hl
              subst hv
              refine lv_iadd hx hb dX3_repaired_86 ?_
              refine g_iast (j := g) hx hb hS hP hV (id := 53) (by omega) (fun _ => rfl) (by decide) rfl (by omega) dX3_repaired_87 (fun H locs hP hV => ?_)
              refine lv_iinc (v := nI (g + 1)) (lv' := [(6, .int (nI (g + 1))), (5, .int ((smM (LF M pn cn y).1 (LF M pn cn y).2 mo b g) + (ppM (pdM (LF M pn cn y).1 (LF M pn cn y).2 mo b g) (LF M pn cn y).2 mo g))), (7, .int (ppM (pdM (LF M pn cn y).1 (LF M pn cn y).2 mo b g) (LF M pn cn y).2 mo g)), (4, .int (nI ((LF M pn cn y).2))), (0, .ref (xa x 38)), (1, .int (nI y)), (2, .int mo), (3, .int (bI b))]) hx hb dX3_repaired_88 hl (k := 2) rfl (nI_add (g) 1) (by decide) rfl (fun ls hl => ?_)
              refine lv_goto (tgt := 28) hx hb dX3_repaired_91 (by decide) ?_
              exact ih_28 (g + 1) (by omega) (by omega)  _ _ (show va_P (xD x) vwCl (wAll x (pdM (LF M pn cn y).1 (LF M pn cn y).2 mo b (g + 1))) _ from by exact hP) hV ls (lv_sub hl [0, 1, 3, 4, 5, 6, 7] (show ([(6, .int (nI (g + 1))), (5, .int ((smM (LF M pn cn y).1 (LF M pn cn y).2 mo b g) + (ppM (pdM (LF M pn cn y).1 (LF M pn cn y).2 mo b g) (LF M pn cn y).2 mo g))), (4, .int (nI ((LF M pn cn y).2))), (0, .ref (xa x 38)), (1, .int (nI y)), (2, .int mo), (3, .int (bI b))] : List (Nat × Value)) = [(6, .int (nI (g + 1))), (5, .int (smM (LF M pn cn y).1 (LF M pn cn y).2 mo b (g + 1))), (4, .int (nI ((LF M pn cn y).2))), (0, .ref (xa x 38)), (1, .int (nI y)), (2, .int mo), (3, .int (bI b))] from by rfl))
            refine lv_iload_n hx hb dX3_repaired_76 rfl (lv_at hl 7 rfl) ?_
            refine h_if_eq_b (tgt := 85) hx hb dX3_repaired_77 (by decide) (fun c_3 => ?_) (fun c_3 => ?_)
            · -- taken
              refine lv_iconst (v := 0) hx hb dX3_repaired_85 (by decide) ?_
              exact J_86 _ (by simp [c_3]) _ _ hP hV ls hl
            · -- on
              refine lv_iload hx hb dX3_repaired_80 (lv_at hl 1 rfl) ?_
              refine lv_goto (tgt := 86) hx hb dX3_repaired_82 (by decide) ?_
              exact J_86 _ (by simp [c_3]) _ _ hP hV ls hl
          refine lv_aload_n hx hb dX3_repaired_37 rfl (lv_at hl 3 rfl) ?_
          refine lv_iload hx hb dX3_repaired_38 (lv_at hl 0 rfl) ?_
          refine lv_iload_n hx hb dX3_repaired_40 rfl (lv_at hl 5 rfl) ?_
          refine lv_iload hx hb dX3_repaired_41 (lv_at hl 2 rfl) ?_
          refine g_call1 (va_runV (As := [.int (nI g), .int mo, .int (nI ((LF M pn cn y).2))]) (rest := []) ⟨hx, hb, hml, hown, hts⟩ (c_X3_isTouched l x (pdM (LF M pn cn y).1 (LF M pn cn y).2 mo b g) cn gn dn pn g mo ((LF M pn cn y).2) hMg (by omega) hn63 hRg) (cwV 3 hts gX3_repaired_X3_isTouched rfl rfl rfl (by decide +kernel) ⟨Nat.le_of_ble_eq_true rfl, Nat.le_of_ble_eq_true rfl⟩) (g_preV hS hZ hP hV [.int (nI g), .int mo, .int (nI ((LF M pn cn y).2))] (id := 38) (by decide) rfl rfl) rfl rfl hl.1 rfl (lv_room (Nat.le_of_ble_eq_true rfl)) dX3_repaired_43 ⟨Nat.le_of_ble_eq_true rfl, Nat.le_of_ble_eq_true rfl⟩) hV (fun H locs hP hV => ?_)
          refine h_if_eq_b (tgt := 58) hx hb dX3_repaired_46 (by decide) (fun c_4 => ?_) (fun c_4 => ?_)
          · -- taken
            refine lv_iconst (v := 0) hx hb dX3_repaired_58 (by decide) ?_
            exact J_59 _ (by simp [ppM, c_4]) _ _ hP hV ls hl
          · -- on
            refine lv_aload_n hx hb dX3_repaired_49 rfl (lv_at hl 3 rfl) ?_
            refine lv_iload hx hb dX3_repaired_50 (lv_at hl 0 rfl) ?_
            refine g_call1 (va_runV (As := [.int (nI g)]) (rest := []) ⟨hx, hb, hml, hown, hts⟩ (c_X3_price l x (pdM (LF M pn cn y).1 (LF M pn cn y).2 mo b g) g (by omega)) (cwV 1 hts gX3_repaired_X3_price rfl rfl rfl (by decide +kernel) ⟨Nat.le_of_ble_eq_true rfl, Nat.le_of_ble_eq_true rfl⟩) (g_preV hS hZ hP hV [.int (nI g)] (id := 38) (by decide) rfl rfl) rfl rfl hl.1 rfl (lv_room (Nat.le_of_ble_eq_true rfl)) dX3_repaired_52 ⟨Nat.le_of_ble_eq_true rfl, Nat.le_of_ble_eq_true rfl⟩) hV (fun H locs hP hV => ?_)
            refine lv_goto (tgt := 59) hx hb dX3_repaired_55 (by decide) ?_
            exact J_59 _ (by simp [ppM, c_4]) _ _ hP hV ls hl
    exact lp_28 (gn - (0) + 1) (0) (by omega) (by omega)  _ _ (show va_P (xD x) vwCl (wAll x (pdM (LF M pn cn y).1 (LF M pn cn y).2 mo b 0)) _ from by exact hP) hV ls (lv_sub hl [0, 1, 2, 3, 4, 5, 6] (show ([(6, .int 0), (5, .int (nI (10 * ((LF M pn cn y).2)))), (4, .int (nI ((LF M pn cn y).2))), (0, .ref (xa x 38)), (1, .int (nI y)), (2, .int mo), (3, .int (bI b))] : List (Nat × Value)) = [(6, .int 0), (5, .int (smM (LF M pn cn y).1 (LF M pn cn y).2 mo b 0)), (4, .int (nI ((LF M pn cn y).2))), (0, .ref (xa x 38)), (1, .int (nI y)), (2, .int mo), (3, .int (bI b))] from by rfl))
  · -- on
    refine lv_iconst (v := -1) hx hb dX3_repaired_16 (by decide) ?_
    exact g_iret hx hb hr hlk hS hZ hP hV (Nat.le_of_ble_eq_true rfl) (Nat.le_of_ble_eq_true rfl) dX3_repaired_17 (by simp [rpR, c_1]) (by simp [rpM, c_1])
set_option maxHeartbeats 4000000 in
set_option maxRecDepth 100000 in
theorem c_X3_errorOfRepair (l : Launch) (x : Cx) (M : Nat → Nat → Int32) (cn gn dn : Nat) (pn : Nat → Nat) (a q mo : Int32) (hM : OkM M cn gn dn pn) : Met l yX3_errorOfRepair wsX3_errorOfRepair ({ frames := 8, cells := 0, slots := 0, locals := 203 }) (gP x M [.ref (xa x 38), .int a, .int q, .int mo]) (gQ x (some (.int (cdRe M cn gn pn a q mo))) (reM M cn gn pn a q mo)) 0 0 (gF x) := by
  refine g_met (cc := cX3_errorOfRepair) (maxL := 4) (ret := some .int) (by decide) rfl (Nat.le_of_ble_eq_true rfl) ?_
  intro p e s m below meth c hx hb hr hml hts hown hlk hS hZ hP hV ls hl
  have hl : lv_has ls 4 [(0, .ref (xa x 38)), (1, .int a), (2, .int q), (3, .int mo)] := hl
  have hw_f169 := hts (.fieldLink RX3 169 "CableOfficeModel" "repairs" "I") (by decide +kernel)
  have hinX3 : ∀ w ∈ wsX30, w ∈ wsX3_errorOfRepair := by decide +kernel
  have hc8 := hM.c8
  have hg5 := hM.g5
  have hd8 := hM.d8
  have h7 : P7 cn pn := hM.pp
  refine lv_aload_n hx hb dX3_errorOfRepair_0 rfl (lv_at hl 0 rfl) ?_
  refine lv_iload_n hx hb dX3_errorOfRepair_1 rfl (lv_at hl 1 rfl) ?_
  refine lv_iload_n hx hb dX3_errorOfRepair_2 rfl (lv_at hl 2 rfl) ?_
  refine g_call1 (va_runV (As := [.int a, .int q]) (rest := []) ⟨hx, hb, hml, hown, hts⟩ (c_X3_isPiece l x M cn gn dn pn a q hM) (cwV 2 hts gX3_errorOfRepair_X3_isPiece rfl rfl rfl (by decide +kernel) ⟨Nat.le_of_ble_eq_true rfl, Nat.le_of_ble_eq_true rfl⟩) (g_preV hS hZ hP hV [.int a, .int q] (id := 38) (by decide) rfl rfl) rfl rfl hl.1 rfl (lv_room (Nat.le_of_ble_eq_true rfl)) dX3_errorOfRepair_3 ⟨Nat.le_of_ble_eq_true rfl, Nat.le_of_ble_eq_true rfl⟩) hV (fun H locs hP hV => ?_)
  refine h_if_ne_b (tgt := 11) hx hb dX3_errorOfRepair_6 (by decide) (fun c_1 => ?_) (fun c_1 => ?_)
  · -- taken
    obtain ⟨j, k, hj, ea, hk, eb⟩ := pcM_true hM.c8 hM.pp c_1
    rw [ea, eb] at hl
    have h7j := hM.p7 hj
    have hyok : okP cn pn (8 * j + k) := okP_of hM.pp hj hk
    refine lv_iload_n hx hb dX3_errorOfRepair_11 rfl (lv_at hl 3 rfl) ?_
    refine g_call1 (va_runS (As := [.int mo]) (rest := []) ⟨hx, hb, hml, hown, hts⟩ (c_X3_isMonth l x M mo) (va_cwS 1 hts gX3_errorOfRepair_X3_isMonth rfl rfl rfl (by decide +kernel) ⟨Nat.le_of_ble_eq_true rfl, Nat.le_of_ble_eq_true rfl⟩) (g_preS hS hZ hP hV [.int mo]) rfl rfl hl.1 rfl (lv_room (Nat.le_of_ble_eq_true rfl)) dX3_errorOfRepair_12 ⟨Nat.le_of_ble_eq_true rfl, Nat.le_of_ble_eq_true rfl⟩) hV (fun H locs hP hV => ?_)
    refine h_if_ne_b (tgt := 20) hx hb dX3_errorOfRepair_15 (by decide) (fun c_2 => ?_) (fun c_2 => ?_)
    · -- taken
      refine lv_aload_n hx hb dX3_errorOfRepair_20 rfl (lv_at hl 0 rfl) ?_
      refine g_get (C := RX3) (T := TX3) (N := 22) (v := .int (M 38 19)) hx hb hts hinX3 hown hS hP (id := 38) (by decide) rfl rfl 19 (by decide) hw_f169 rfl dX3_errorOfRepair_21 ?_
      refine lv_sipush (v := 500) hx hb dX3_errorOfRepair_24 (by decide) ?_
      refine lv_icmp_eq (tgt := 46) hx hb dX3_errorOfRepair_27 (by decide) (fun c_3 => ?_) (fun c_3 => ?_)
      · -- taken
        refine lv_iconst (v := 3) hx hb dX3_errorOfRepair_46 (by decide) ?_
        refine lv_goto (tgt := 51) hx hb dX3_errorOfRepair_47 (by decide) ?_
        exact g_iret hx hb hr hlk hS hZ hP hV (Nat.le_of_ble_eq_true rfl) (Nat.le_of_ble_eq_true rfl) dX3_errorOfRepair_51 (by subst ea; subst eb; simp [cdRe, c_1, c_2, c_3, tn_nI (show j < 2 ^ 31 by omega), tn_nI (show k < 2 ^ 31 by omega)]) (by subst ea; subst eb; simp [reM, c_1, c_2, c_3, tn_nI (show j < 2 ^ 31 by omega), tn_nI (show k < 2 ^ 31 by omega)])
      · -- on
        refine lv_aload_n hx hb dX3_errorOfRepair_30 rfl (lv_at hl 0 rfl) ?_
        refine lv_bipush (v := 8) hx hb dX3_errorOfRepair_31 (by decide) ?_
        refine lv_iload_n hx hb dX3_errorOfRepair_33 rfl (lv_at hl 1 rfl) ?_
        refine h_imul (v := nI (8 * j)) hx hb dX3_errorOfRepair_34 (pk_mul (8) (j)) ?_
        refine lv_iload_n hx hb dX3_errorOfRepair_35 rfl (lv_at hl 2 rfl) ?_
        refine h_iadd (v := nI (8 * j + k)) hx hb dX3_errorOfRepair_36 (nI_add (8 * j) (k)) ?_
        refine lv_iload_n hx hb dX3_errorOfRepair_37 rfl (lv_at hl 3 rfl) ?_
        refine lv_iconst (v := 0) hx hb dX3_errorOfRepair_38 (by decide) ?_
        refine g_call1 (va_runV (As := [.int (nI (8 * j + k)), .int mo, .int 0]) (rest := []) ⟨hx, hb, hml, hown, hts⟩ (c_X3_repaired l x M cn gn dn pn (8 * j + k) mo false hM hyok) (cwV 3 hts gX3_errorOfRepair_X3_repaired rfl rfl rfl (by decide +kernel) ⟨Nat.le_of_ble_eq_true rfl, Nat.le_of_ble_eq_true rfl⟩) (g_preV hS hZ hP hV [.int (nI (8 * j + k)), .int mo, .int 0] (id := 38) (by decide) rfl rfl) rfl rfl hl.1 rfl (lv_room (Nat.le_of_ble_eq_true rfl)) dX3_errorOfRepair_39 ⟨Nat.le_of_ble_eq_true rfl, Nat.le_of_ble_eq_true rfl⟩) hV (fun H locs hP hV => ?_)
        refine lv_iconst (v := -1) hx hb dX3_errorOfRepair_42 (by decide) ?_
        refine lv_icmp_ne (tgt := 50) hx hb dX3_errorOfRepair_43 (by decide) (fun c_4 => ?_) (fun c_4 => ?_)
        · -- taken
          refine lv_iconst (v := 0) hx hb dX3_errorOfRepair_50 (by decide) ?_
          exact g_iret hx hb hr hlk hS hZ hP hV (Nat.le_of_ble_eq_true rfl) (Nat.le_of_ble_eq_true rfl) dX3_errorOfRepair_51 (by subst ea; subst eb; simp [cdRe, c_1, c_2, c_3, c_4, tn_nI (show j < 2 ^ 31 by omega), tn_nI (show k < 2 ^ 31 by omega)]) (by subst ea; subst eb; simp [reM, c_1, c_2, c_3, c_4, tn_nI (show j < 2 ^ 31 by omega), tn_nI (show k < 2 ^ 31 by omega)])
        · -- on
          refine lv_iconst (v := 3) hx hb dX3_errorOfRepair_46 (by decide) ?_
          refine lv_goto (tgt := 51) hx hb dX3_errorOfRepair_47 (by decide) ?_
          exact g_iret hx hb hr hlk hS hZ hP hV (Nat.le_of_ble_eq_true rfl) (Nat.le_of_ble_eq_true rfl) dX3_errorOfRepair_51 (by subst ea; subst eb; simp [cdRe, c_1, c_2, c_3, c_4, tn_nI (show j < 2 ^ 31 by omega), tn_nI (show k < 2 ^ 31 by omega)]) (by subst ea; subst eb; simp [reM, c_1, c_2, c_3, c_4, tn_nI (show j < 2 ^ 31 by omega), tn_nI (show k < 2 ^ 31 by omega)])
    · -- on
      refine lv_iconst (v := 2) hx hb dX3_errorOfRepair_18 (by decide) ?_
      exact g_iret hx hb hr hlk hS hZ hP hV (Nat.le_of_ble_eq_true rfl) (Nat.le_of_ble_eq_true rfl) dX3_errorOfRepair_19 (by subst ea; subst eb; simp [cdRe, c_1, c_2, tn_nI (show j < 2 ^ 31 by omega), tn_nI (show k < 2 ^ 31 by omega)]) (by subst ea; subst eb; simp [reM, c_1, c_2, tn_nI (show j < 2 ^ 31 by omega), tn_nI (show k < 2 ^ 31 by omega)])
  · -- on
    refine lv_iconst (v := 1) hx hb dX3_errorOfRepair_9 (by decide) ?_
    exact g_iret hx hb hr hlk hS hZ hP hV (Nat.le_of_ble_eq_true rfl) (Nat.le_of_ble_eq_true rfl) dX3_errorOfRepair_10 (by simp [cdRe, c_1]) (by simp [reM, c_1])
set_option maxHeartbeats 4000000 in
set_option maxRecDepth 100000 in
theorem c_X3_lifted (l : Launch) (x : Cx) (M : Nat → Nat → Int32) (cn gn dn : Nat) (pn : Nat → Nat) (a q : Int32) (hM : OkM M cn gn dn pn) : Met l yX3_lifted wsX3_lifted ({ frames := 5, cells := 0, slots := 0, locals := 130 }) (gP x M [.ref (xa x 38), .int a, .int q]) (gQ x (some (.int (if cd01 (pcM cn pn a q) = 0 then nI (LF (up2 M 38 0 0) pn cn (8 * tn a + tn q)).2 else 0))) (if cd01 (pcM cn pn a q) = 0 then (LF (up2 M 38 0 0) pn cn (8 * tn a + tn q)).1 else up2 M 38 0 (cd01 (pcM cn pn a q)))) 0 0 (gF x) := by
  refine g_met (cc := cX3_lifted) (maxL := 3) (ret := some .int) (by decide) rfl (Nat.le_of_ble_eq_true rfl) ?_
  intro p e s m below meth c hx hb hr hml hts hown hlk hS hZ hP hV ls hl
  have hl : lv_has ls 3 [(0, .ref (xa x 38)), (1, .int a), (2, .int q)] := hl
  have hc8 := hM.c8
  have hg5 := hM.g5
  have hd8 := hM.d8
  refine lv_aload_n hx hb dX3_lifted_0 rfl (lv_at hl 0 rfl) ?_
  refine lv_aload_n hx hb dX3_lifted_1 rfl (lv_at hl 0 rfl) ?_
  refine lv_iload_n hx hb dX3_lifted_2 rfl (lv_at hl 1 rfl) ?_
  refine lv_iload_n hx hb dX3_lifted_3 rfl (lv_at hl 2 rfl) ?_
  refine g_call1 (va_runV (As := [.int a, .int q]) (rest := [.ref (xa x 38)]) ⟨hx, hb, hml, hown, hts⟩ (c_X3_isPiece l x M cn gn dn pn a q hM) (cwV 2 hts gX3_lifted_X3_isPiece rfl rfl rfl (by decide +kernel) ⟨Nat.le_of_ble_eq_true rfl, Nat.le_of_ble_eq_true rfl⟩) (g_preV hS hZ hP hV [.int a, .int q] (id := 38) (by decide) rfl rfl) rfl rfl hl.1 rfl (lv_room (Nat.le_of_ble_eq_true rfl)) dX3_lifted_4 ⟨Nat.le_of_ble_eq_true rfl, Nat.le_of_ble_eq_true rfl⟩) hV (fun H locs hP hV => ?_)
  refine h_if_eq_b (tgt := 14) hx hb dX3_lifted_7 (by decide) (fun c_1 => ?_) (fun c_1 => ?_)
  · -- taken
    refine lv_iconst (v := 1) hx hb dX3_lifted_14 (by decide) ?_
    refine g_call1 (va_runV (As := [.int 1]) (rest := []) ⟨hx, hb, hml, hown, hts⟩ (c_X3_holds l x M 1) (cwV 1 hts gX3_lifted_X3_holds rfl rfl rfl (by decide +kernel) ⟨Nat.le_of_ble_eq_true rfl, Nat.le_of_ble_eq_true rfl⟩) (g_preV hS hZ hP hV [.int 1] (id := 38) (by decide) rfl rfl) rfl rfl hl.1 rfl (lv_room (Nat.le_of_ble_eq_true rfl)) dX3_lifted_15 ⟨Nat.le_of_ble_eq_true rfl, Nat.le_of_ble_eq_true rfl⟩) hV (fun H locs hP hV => ?_)
    have hM0 : OkM (up2 M 38 0 1) cn gn dn pn := hM.h0
    refine h_if_eq_b (tgt := 34) hx hb dX3_lifted_18 (by decide) (fun c_2 => ?_) (fun c_2 => ?_)
    · -- taken
      refine lv_iconst (v := 0) hx hb dX3_lifted_34 (by decide) ?_
      exact g_iret hx hb hr hlk hS hZ hP hV (Nat.le_of_ble_eq_true rfl) (Nat.le_of_ble_eq_true rfl) dX3_lifted_35 (by exact (if_neg (fun z => absurd ((show cd01 (pcM cn pn a q) = 1 from by simp [cd01, c_1, c_2]).symm.trans z) (by decide))).symm) (by have hcd := (show cd01 (pcM cn pn a q) = 1 from by simp [cd01, c_1, c_2]); rw [if_neg (fun z => absurd (hcd.symm.trans z) (by decide)), hcd])
    · -- on
      exact absurd c_2 (by decide)
  · -- on
    obtain ⟨j, k, hj, ea, hk, eb⟩ := pcM_true hM.c8 hM.pp c_1
    rw [ea, eb] at hl
    have h7j := hM.p7 hj
    have hyok : okP cn pn (8 * j + k) := okP_of hM.pp hj hk
    refine lv_iconst (v := 0) hx hb dX3_lifted_10 (by decide) ?_
    refine lv_goto (tgt := 15) hx hb dX3_lifted_11 (by decide) ?_
    refine g_call1 (va_runV (As := [.int 0]) (rest := []) ⟨hx, hb, hml, hown, hts⟩ (c_X3_holds l x M 0) (cwV 1 hts gX3_lifted_X3_holds rfl rfl rfl (by decide +kernel) ⟨Nat.le_of_ble_eq_true rfl, Nat.le_of_ble_eq_true rfl⟩) (g_preV hS hZ hP hV [.int 0] (id := 38) (by decide) rfl rfl) rfl rfl hl.1 rfl (lv_room (Nat.le_of_ble_eq_true rfl)) dX3_lifted_15 ⟨Nat.le_of_ble_eq_true rfl, Nat.le_of_ble_eq_true rfl⟩) hV (fun H locs hP hV => ?_)
    have hM0 : OkM (up2 M 38 0 0) cn gn dn pn := hM.h0
    refine h_if_eq_b (tgt := 34) hx hb dX3_lifted_18 (by decide) (fun c_3 => ?_) (fun c_3 => ?_)
    · -- taken
      exact absurd c_3 (by decide)
    · -- on
      refine lv_aload_n hx hb dX3_lifted_21 rfl (lv_at hl 0 rfl) ?_
      refine lv_bipush (v := 8) hx hb dX3_lifted_22 (by decide) ?_
      refine lv_iload_n hx hb dX3_lifted_24 rfl (lv_at hl 1 rfl) ?_
      refine h_imul (v := nI (8 * j)) hx hb dX3_lifted_25 (pk_mul (8) (j)) ?_
      refine lv_iload_n hx hb dX3_lifted_26 rfl (lv_at hl 2 rfl) ?_
      refine h_iadd (v := nI (8 * j + k)) hx hb dX3_lifted_27 (nI_add (8 * j) (k)) ?_
      refine g_call1 (va_runV (As := [.int (nI (8 * j + k))]) (rest := []) ⟨hx, hb, hml, hown, hts⟩ (c_X3_lifts l x (up2 M 38 0 0) cn gn dn pn (8 * j + k) hM0 hyok) (cwV 1 hts gX3_lifted_X3_lifts rfl rfl rfl (by decide +kernel) ⟨Nat.le_of_ble_eq_true rfl, Nat.le_of_ble_eq_true rfl⟩) (g_preV hS hZ hP hV [.int (nI (8 * j + k))] (id := 38) (by decide) rfl rfl) rfl rfl hl.1 rfl (lv_room (Nat.le_of_ble_eq_true rfl)) dX3_lifted_28 ⟨Nat.le_of_ble_eq_true rfl, Nat.le_of_ble_eq_true rfl⟩) hV (fun H locs hP hV => ?_)
      refine lv_goto (tgt := 35) hx hb dX3_lifted_31 (by decide) ?_
      exact g_iret hx hb hr hlk hS hZ hP hV (Nat.le_of_ble_eq_true rfl) (Nat.le_of_ble_eq_true rfl) dX3_lifted_35 (by refine Eq.trans ?_ (if_pos (show cd01 (pcM cn pn a q) = 0 from by subst ea; subst eb; simp [cd01, c_1, c_3, tn_nI (show j < 2 ^ 31 by omega), tn_nI (show k < 2 ^ 31 by omega)])).symm; subst ea; subst eb; simp only [tn_nI (show j < 2 ^ 31 by omega), tn_nI (show k < 2 ^ 31 by omega)]) (by refine Eq.trans ?_ (if_pos (show cd01 (pcM cn pn a q) = 0 from by subst ea; subst eb; simp [cd01, c_1, c_3, tn_nI (show j < 2 ^ 31 by omega), tn_nI (show k < 2 ^ 31 by omega)])).symm; subst ea; subst eb; simp only [tn_nI (show j < 2 ^ 31 by omega), tn_nI (show k < 2 ^ 31 by omega)])
set_option maxHeartbeats 4000000 in
set_option maxRecDepth 100000 in
theorem c_X3_cost (l : Launch) (x : Cx) (M : Nat → Nat → Int32) (cn gn dn : Nat) (pn : Nat → Nat) (a q mo : Int32) (hM : OkM M cn gn dn pn) : Met l yX3_cost wsX3_cost ({ frames := 8, cells := 0, slots := 0, locals := 203 }) (gP x M [.ref (xa x 38), .int a, .int q, .int mo]) (gQ x (some (.int (if (if pcM cn pn a q = false then 1 else if moM mo = true then 0 else 2 : Int32) = 0 then rpR (up2 M 38 0 0) pn cn gn (8 * tn a + tn q) mo false else 0))) (if (if pcM cn pn a q = false then 1 else if moM mo = true then 0 else 2 : Int32) = 0 then rpM (up2 M 38 0 0) pn cn gn (8 * tn a + tn q) mo false else up2 M 38 0 ((if pcM cn pn a q = false then 1 else if moM mo = true then 0 else 2 : Int32)))) 0 0 (gF x) := by
  refine g_met (cc := cX3_cost) (maxL := 4) (ret := some .int) (by decide) rfl (Nat.le_of_ble_eq_true rfl) ?_
  intro p e s m below meth c hx hb hr hml hts hown hlk hS hZ hP hV ls hl
  have hl : lv_has ls 4 [(0, .ref (xa x 38)), (1, .int a), (2, .int q), (3, .int mo)] := hl
  have hc8 := hM.c8
  have hg5 := hM.g5
  have hd8 := hM.d8
  refine lv_aload_n hx hb dX3_cost_0 rfl (lv_at hl 0 rfl) ?_
  refine lv_aload_n hx hb dX3_cost_1 rfl (lv_at hl 0 rfl) ?_
  refine lv_iload_n hx hb dX3_cost_2 rfl (lv_at hl 1 rfl) ?_
  refine lv_iload_n hx hb dX3_cost_3 rfl (lv_at hl 2 rfl) ?_
  refine g_call1 (va_runV (As := [.int a, .int q]) (rest := [.ref (xa x 38)]) ⟨hx, hb, hml, hown, hts⟩ (c_X3_isPiece l x M cn gn dn pn a q hM) (cwV 2 hts gX3_cost_X3_isPiece rfl rfl rfl (by decide +kernel) ⟨Nat.le_of_ble_eq_true rfl, Nat.le_of_ble_eq_true rfl⟩) (g_preV hS hZ hP hV [.int a, .int q] (id := 38) (by decide) rfl rfl) rfl rfl hl.1 rfl (lv_room (Nat.le_of_ble_eq_true rfl)) dX3_cost_4 ⟨Nat.le_of_ble_eq_true rfl, Nat.le_of_ble_eq_true rfl⟩) hV (fun H locs hP hV => ?_)
  refine h_if_ne_b (tgt := 14) hx hb dX3_cost_7 (by decide) (fun c_1 => ?_) (fun c_1 => ?_)
  · -- taken
    obtain ⟨j, k, hj, ea, hk, eb⟩ := pcM_true hM.c8 hM.pp c_1
    rw [ea, eb] at hl
    have h7j := hM.p7 hj
    have hyok : okP cn pn (8 * j + k) := okP_of hM.pp hj hk
    refine lv_iload_n hx hb dX3_cost_14 rfl (lv_at hl 3 rfl) ?_
    refine g_call1 (va_runS (As := [.int mo]) (rest := [.ref (xa x 38)]) ⟨hx, hb, hml, hown, hts⟩ (c_X3_isMonth l x M mo) (va_cwS 1 hts gX3_cost_X3_isMonth rfl rfl rfl (by decide +kernel) ⟨Nat.le_of_ble_eq_true rfl, Nat.le_of_ble_eq_true rfl⟩) (g_preS hS hZ hP hV [.int mo]) rfl rfl hl.1 rfl (lv_room (Nat.le_of_ble_eq_true rfl)) dX3_cost_15 ⟨Nat.le_of_ble_eq_true rfl, Nat.le_of_ble_eq_true rfl⟩) hV (fun H locs hP hV => ?_)
    refine h_if_eq_b (tgt := 25) hx hb dX3_cost_18 (by decide) (fun c_2 => ?_) (fun c_2 => ?_)
    · -- taken
      refine lv_iconst (v := 2) hx hb dX3_cost_25 (by decide) ?_
      refine g_call1 (va_runV (As := [.int 2]) (rest := []) ⟨hx, hb, hml, hown, hts⟩ (c_X3_holds l x M 2) (cwV 1 hts gX3_cost_X3_holds rfl rfl rfl (by decide +kernel) ⟨Nat.le_of_ble_eq_true rfl, Nat.le_of_ble_eq_true rfl⟩) (g_preV hS hZ hP hV [.int 2] (id := 38) (by decide) rfl rfl) rfl rfl hl.1 rfl (lv_room (Nat.le_of_ble_eq_true rfl)) dX3_cost_26 ⟨Nat.le_of_ble_eq_true rfl, Nat.le_of_ble_eq_true rfl⟩) hV (fun H locs hP hV => ?_)
      have hM0 : OkM (up2 M 38 0 2) cn gn dn pn := hM.h0
      refine h_if_eq_b (tgt := 47) hx hb dX3_cost_29 (by decide) (fun c_3 => ?_) (fun c_3 => ?_)
      · -- taken
        refine lv_iconst (v := 0) hx hb dX3_cost_47 (by decide) ?_
        exact g_iret hx hb hr hlk hS hZ hP hV (Nat.le_of_ble_eq_true rfl) (Nat.le_of_ble_eq_true rfl) dX3_cost_48 (by exact (if_neg (fun z => absurd ((show (if pcM cn pn a q = false then 1 else if moM mo = true then 0 else 2 : Int32) = 2 from by subst ea; subst eb; simp [c_1, c_2, c_3, tn_nI (show j < 2 ^ 31 by omega), tn_nI (show k < 2 ^ 31 by omega)]).symm.trans z) (by decide))).symm) (by have hcd := (show (if pcM cn pn a q = false then 1 else if moM mo = true then 0 else 2 : Int32) = 2 from by subst ea; subst eb; simp [c_1, c_2, c_3, tn_nI (show j < 2 ^ 31 by omega), tn_nI (show k < 2 ^ 31 by omega)]); rw [if_neg (fun z => absurd (hcd.symm.trans z) (by decide)), hcd])
      · -- on
        exact absurd c_3 (by decide)
    · -- on
      refine lv_iconst (v := 0) hx hb dX3_cost_21 (by decide) ?_
      refine lv_goto (tgt := 26) hx hb dX3_cost_22 (by decide) ?_
      refine g_call1 (va_runV (As := [.int 0]) (rest := []) ⟨hx, hb, hml, hown, hts⟩ (c_X3_holds l x M 0) (cwV 1 hts gX3_cost_X3_holds rfl rfl rfl (by decide +kernel) ⟨Nat.le_of_ble_eq_true rfl, Nat.le_of_ble_eq_true rfl⟩) (g_preV hS hZ hP hV [.int 0] (id := 38) (by decide) rfl rfl) rfl rfl hl.1 rfl (lv_room (Nat.le_of_ble_eq_true rfl)) dX3_cost_26 ⟨Nat.le_of_ble_eq_true rfl, Nat.le_of_ble_eq_true rfl⟩) hV (fun H locs hP hV => ?_)
      have hM0 : OkM (up2 M 38 0 0) cn gn dn pn := hM.h0
      refine h_if_eq_b (tgt := 47) hx hb dX3_cost_29 (by decide) (fun c_4 => ?_) (fun c_4 => ?_)
      · -- taken
        exact absurd c_4 (by decide)
      · -- on
        refine lv_aload_n hx hb dX3_cost_32 rfl (lv_at hl 0 rfl) ?_
        refine lv_bipush (v := 8) hx hb dX3_cost_33 (by decide) ?_
        refine lv_iload_n hx hb dX3_cost_35 rfl (lv_at hl 1 rfl) ?_
        refine h_imul (v := nI (8 * j)) hx hb dX3_cost_36 (pk_mul (8) (j)) ?_
        refine lv_iload_n hx hb dX3_cost_37 rfl (lv_at hl 2 rfl) ?_
        refine h_iadd (v := nI (8 * j + k)) hx hb dX3_cost_38 (nI_add (8 * j) (k)) ?_
        refine lv_iload_n hx hb dX3_cost_39 rfl (lv_at hl 3 rfl) ?_
        refine lv_iconst (v := 0) hx hb dX3_cost_40 (by decide) ?_
        refine g_call1 (va_runV (As := [.int (nI (8 * j + k)), .int mo, .int 0]) (rest := []) ⟨hx, hb, hml, hown, hts⟩ (c_X3_repaired l x (up2 M 38 0 0) cn gn dn pn (8 * j + k) mo false hM0 hyok) (cwV 3 hts gX3_cost_X3_repaired rfl rfl rfl (by decide +kernel) ⟨Nat.le_of_ble_eq_true rfl, Nat.le_of_ble_eq_true rfl⟩) (g_preV hS hZ hP hV [.int (nI (8 * j + k)), .int mo, .int 0] (id := 38) (by decide) rfl rfl) rfl rfl hl.1 rfl (lv_room (Nat.le_of_ble_eq_true rfl)) dX3_cost_41 ⟨Nat.le_of_ble_eq_true rfl, Nat.le_of_ble_eq_true rfl⟩) hV (fun H locs hP hV => ?_)
        refine lv_goto (tgt := 48) hx hb dX3_cost_44 (by decide) ?_
        exact g_iret hx hb hr hlk hS hZ hP hV (Nat.le_of_ble_eq_true rfl) (Nat.le_of_ble_eq_true rfl) dX3_cost_48 (by refine Eq.trans ?_ (if_pos (show (if pcM cn pn a q = false then 1 else if moM mo = true then 0 else 2 : Int32) = 0 from by subst ea; subst eb; simp [c_1, c_2, c_4, tn_nI (show j < 2 ^ 31 by omega), tn_nI (show k < 2 ^ 31 by omega)])).symm; subst ea; subst eb; simp only [tn_nI (show j < 2 ^ 31 by omega), tn_nI (show k < 2 ^ 31 by omega)]) (by refine Eq.trans ?_ (if_pos (show (if pcM cn pn a q = false then 1 else if moM mo = true then 0 else 2 : Int32) = 0 from by subst ea; subst eb; simp [c_1, c_2, c_4, tn_nI (show j < 2 ^ 31 by omega), tn_nI (show k < 2 ^ 31 by omega)])).symm; subst ea; subst eb; simp only [tn_nI (show j < 2 ^ 31 by omega), tn_nI (show k < 2 ^ 31 by omega)])
  · -- on
    refine lv_iconst (v := 1) hx hb dX3_cost_10 (by decide) ?_
    refine lv_goto (tgt := 26) hx hb dX3_cost_11 (by decide) ?_
    refine g_call1 (va_runV (As := [.int 1]) (rest := []) ⟨hx, hb, hml, hown, hts⟩ (c_X3_holds l x M 1) (cwV 1 hts gX3_cost_X3_holds rfl rfl rfl (by decide +kernel) ⟨Nat.le_of_ble_eq_true rfl, Nat.le_of_ble_eq_true rfl⟩) (g_preV hS hZ hP hV [.int 1] (id := 38) (by decide) rfl rfl) rfl rfl hl.1 rfl (lv_room (Nat.le_of_ble_eq_true rfl)) dX3_cost_26 ⟨Nat.le_of_ble_eq_true rfl, Nat.le_of_ble_eq_true rfl⟩) hV (fun H locs hP hV => ?_)
    have hM0 : OkM (up2 M 38 0 1) cn gn dn pn := hM.h0
    refine h_if_eq_b (tgt := 47) hx hb dX3_cost_29 (by decide) (fun c_5 => ?_) (fun c_5 => ?_)
    · -- taken
      refine lv_iconst (v := 0) hx hb dX3_cost_47 (by decide) ?_
      exact g_iret hx hb hr hlk hS hZ hP hV (Nat.le_of_ble_eq_true rfl) (Nat.le_of_ble_eq_true rfl) dX3_cost_48 (by exact (if_neg (fun z => absurd ((show (if pcM cn pn a q = false then 1 else if moM mo = true then 0 else 2 : Int32) = 1 from by simp [c_1, c_5]).symm.trans z) (by decide))).symm) (by have hcd := (show (if pcM cn pn a q = false then 1 else if moM mo = true then 0 else 2 : Int32) = 1 from by simp [c_1, c_5]); rw [if_neg (fun z => absurd (hcd.symm.trans z) (by decide)), hcd])
    · -- on
      exact absurd c_5 (by decide)
set_option maxHeartbeats 4000000 in
set_option maxRecDepth 100000 in
theorem c_X3_repair (l : Launch) (x : Cx) (M : Nat → Nat → Int32) (cn gn dn : Nat) (pn : Nat → Nat) (a q mo : Int32) (hM : OkM M cn gn dn pn) : Met l yX3_repair wsX3_repair ({ frames := 9, cells := 0, slots := 0, locals := 226 }) (gP x M [.ref (xa x 38), .int a, .int q, .int mo]) (gQ x (some (.int (if cdRe M cn gn pn a q mo = 0 then rpR (up2 (up2 (rpM M pn cn gn (8 * tn a + tn q) mo false) 38 0 0) 38 19 (M 38 19 + 1)) pn cn gn (8 * tn a + tn q) mo true else 0))) (if cdRe M cn gn pn a q mo = 0 then rpM (up2 (up2 (rpM M pn cn gn (8 * tn a + tn q) mo false) 38 0 0) 38 19 (M 38 19 + 1)) pn cn gn (8 * tn a + tn q) mo true else up2 (reM M cn gn pn a q mo) 38 0 (cdRe M cn gn pn a q mo))) 0 0 (gF x) := by
  refine g_met (cc := cX3_repair) (maxL := 4) (ret := some .int) (by decide) rfl (Nat.le_of_ble_eq_true rfl) ?_
  intro p e s m below meth c hx hb hr hml hts hown hlk hS hZ hP hV ls hl
  have hl : lv_has ls 4 [(0, .ref (xa x 38)), (1, .int a), (2, .int q), (3, .int mo)] := hl
  have hw_f169 := hts (.fieldLink RX3 169 "CableOfficeModel" "repairs" "I") (by decide +kernel)
  have hinX3 : ∀ w ∈ wsX30, w ∈ wsX3_repair := by decide +kernel
  have hc8 := hM.c8
  have hg5 := hM.g5
  have hd8 := hM.d8
  have h7 : P7 cn pn := hM.pp
  refine lv_aload_n hx hb dX3_repair_0 rfl (lv_at hl 0 rfl) ?_
  refine lv_aload_n hx hb dX3_repair_1 rfl (lv_at hl 0 rfl) ?_
  refine lv_iload_n hx hb dX3_repair_2 rfl (lv_at hl 1 rfl) ?_
  refine lv_iload_n hx hb dX3_repair_3 rfl (lv_at hl 2 rfl) ?_
  refine lv_iload_n hx hb dX3_repair_4 rfl (lv_at hl 3 rfl) ?_
  refine g_call1 (va_runV (As := [.int a, .int q, .int mo]) (rest := [.ref (xa x 38)]) ⟨hx, hb, hml, hown, hts⟩ (c_X3_errorOfRepair l x M cn gn dn pn a q mo hM) (cwV 3 hts gX3_repair_X3_errorOfRepair rfl rfl rfl (by decide +kernel) ⟨Nat.le_of_ble_eq_true rfl, Nat.le_of_ble_eq_true rfl⟩) (g_preV hS hZ hP hV [.int a, .int q, .int mo] (id := 38) (by decide) rfl rfl) rfl rfl hl.1 rfl (lv_room (Nat.le_of_ble_eq_true rfl)) dX3_repair_5 ⟨Nat.le_of_ble_eq_true rfl, Nat.le_of_ble_eq_true rfl⟩) hV (fun H locs hP hV => ?_)
  refine g_call1 (va_runV (As := [.int (cdRe M cn gn pn a q mo)]) (rest := []) ⟨hx, hb, hml, hown, hts⟩ (c_X3_holds l x (reM M cn gn pn a q mo) (cdRe M cn gn pn a q mo)) (cwV 1 hts gX3_repair_X3_holds rfl rfl rfl (by decide +kernel) ⟨Nat.le_of_ble_eq_true rfl, Nat.le_of_ble_eq_true rfl⟩) (g_preV hS hZ hP hV [.int (cdRe M cn gn pn a q mo)] (id := 38) (by decide) rfl rfl) rfl rfl hl.1 rfl (lv_room (Nat.le_of_ble_eq_true rfl)) dX3_repair_8 ⟨Nat.le_of_ble_eq_true rfl, Nat.le_of_ble_eq_true rfl⟩) hV (fun H locs hP hV => ?_)
  refine h_if_ne_b (tgt := 16) hx hb dX3_repair_11 (by decide) (fun c_1 => ?_) (fun c_1 => ?_)
  · -- taken
    have hc0 : cdRe M cn gn pn a q mo = 0 := of_decide_eq_true c_1
    obtain ⟨hp1, hp2, hp3, hp4⟩ := cdRe_0 hc0
    obtain ⟨j, k, hj, ea, hk, eb⟩ := pcM_true hM.c8 hM.pp hp1
    rw [ea, eb] at hl
    have h7j := hM.p7 hj
    have hyok : okP cn pn (8 * j + k) := okP_of hM.pp hj hk
    have hre : reM M cn gn pn a q mo = (rpM M pn cn gn (8 * j + k) mo false) := by rw [reM, if_neg (by simp [hp1, hp2, hp3]), ea, eb, tn_nI (show j < 2 ^ 31 by omega), tn_nI (show k < 2 ^ 31 by omega)]
    obtain ⟨RP, hRP⟩ : ∃ RP : Nat → Nat → Int32, RP = (rpM M pn cn gn (8 * j + k) mo false) := ⟨_, rfl⟩
    rw [hc0, hre, ← hRP] at hP
    have hMR : OkM RP cn gn dn pn := by rw [hRP]; exact rpM_ok hM hyok
    have hR38 : RP 38 = M 38 := by rw [hRP]; exact rpM_ne hc8 h7 hyok (by decide) (by decide) (by decide)
    have hM0 : OkM (up2 RP 38 0 0) cn gn dn pn := hMR.h0
    refine lv_aload_n hx hb dX3_repair_16 rfl (lv_at hl 0 rfl) ?_
    refine lv_dup hx hb dX3_repair_17 rfl ?_
    refine g_get (C := RX3) (T := TX3) (N := 22) (v := .int ((up2 RP 38 0 0) 38 19)) hx hb hts hinX3 hown hS hP (id := 38) (by decide) rfl rfl 19 (by decide) hw_f169 rfl dX3_repair_18 ?_
    refine lv_iconst (v := 1) hx hb dX3_repair_21 (by decide) ?_
    refine lv_iadd hx hb dX3_repair_22 ?_
    refine g_put (C := RX3) (T := TX3) (N := 22) hx hb hts hinX3 tyX3 tyX3_ok nmX3 hown hS hP hV (id := 38) (by decide) rfl rfl 19 (by decide) hw_f169 rfl (by decide +kernel) (Nat.le_of_ble_eq_true rfl) rfl dX3_repair_23 (fun H locs hP hV => ?_)
    have h19 : up2 RP 38 0 0 38 19 = M 38 19 := (up2_off _ _ _ (by decide)).trans (congrFun hR38 19)
    have hM1 : OkM (up2 (up2 RP 38 0 0) 38 19 (((up2 RP 38 0 0) 38 19) + 1)) cn gn dn pn := hM0.h19
    refine lv_aload_n hx hb dX3_repair_26 rfl (lv_at hl 0 rfl) ?_
    refine lv_bipush (v := 8) hx hb dX3_repair_27 (by decide) ?_
    refine lv_iload_n hx hb dX3_repair_29 rfl (lv_at hl 1 rfl) ?_
    refine h_imul (v := nI (8 * j)) hx hb dX3_repair_30 (pk_mul (8) (j)) ?_
    refine lv_iload_n hx hb dX3_repair_31 rfl (lv_at hl 2 rfl) ?_
    refine h_iadd (v := nI (8 * j + k)) hx hb dX3_repair_32 (nI_add (8 * j) (k)) ?_
    refine lv_iload_n hx hb dX3_repair_33 rfl (lv_at hl 3 rfl) ?_
    refine lv_iconst (v := 1) hx hb dX3_repair_34 (by decide) ?_
    refine g_call1 (va_runV (As := [.int (nI (8 * j + k)), .int mo, .int 1]) (rest := []) ⟨hx, hb, hml, hown, hts⟩ (c_X3_repaired l x (up2 (up2 RP 38 0 0) 38 19 (((up2 RP 38 0 0) 38 19) + 1)) cn gn dn pn (8 * j + k) mo true hM1 hyok) (cwV 3 hts gX3_repair_X3_repaired rfl rfl rfl (by decide +kernel) ⟨Nat.le_of_ble_eq_true rfl, Nat.le_of_ble_eq_true rfl⟩) (g_preV hS hZ hP hV [.int (nI (8 * j + k)), .int mo, .int 1] (id := 38) (by decide) rfl rfl) rfl rfl hl.1 rfl (lv_room (Nat.le_of_ble_eq_true rfl)) dX3_repair_35 ⟨Nat.le_of_ble_eq_true rfl, Nat.le_of_ble_eq_true rfl⟩) hV (fun H locs hP hV => ?_)
    exact g_iret hx hb hr hlk hS hZ hP hV (Nat.le_of_ble_eq_true rfl) (Nat.le_of_ble_eq_true rfl) dX3_repair_38 (by refine Eq.trans ?_ (if_pos hc0).symm; subst ea; subst eb; simp only [tn_nI (show j < 2 ^ 31 by omega), tn_nI (show k < 2 ^ 31 by omega)]; rw [h19, hRP]) (by refine Eq.trans ?_ (if_pos hc0).symm; subst ea; subst eb; simp only [tn_nI (show j < 2 ^ 31 by omega), tn_nI (show k < 2 ^ 31 by omega)]; rw [h19, hRP])
  · -- on
    have hc0 : ¬ cdRe M cn gn pn a q mo = 0 := of_decide_eq_false c_1
    refine lv_iconst (v := 0) hx hb dX3_repair_14 (by decide) ?_
    exact g_iret hx hb hr hlk hS hZ hP hV (Nat.le_of_ble_eq_true rfl) (Nat.le_of_ble_eq_true rfl) dX3_repair_15 (by exact (if_neg hc0).symm) (by exact (if_neg hc0).symm)
