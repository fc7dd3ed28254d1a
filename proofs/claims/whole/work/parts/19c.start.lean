theorem str_ex {s : State} {args : Array Value} {i : Nat} {tx : String} (h1 : (Cond.stringRef RX2 i tx).before args s = true) (h2 : (Cond.exactly (.string RX2 i) "java/lang/String").before args s = true) : ∃ a, vk_R RX2 i tx a s := by
  obtain ⟨a, _, _, _, he, _⟩ := Cond.exactly_spec h2
  exact ⟨a, vk_R.of h1 he⟩
theorem str_all {s : State} (h : ∀ t ∈ strW, ∃ a, vk_R RX2 t.1 t.2 a s) : ∃ xs : Nat → Nat, ∀ t ∈ strW, vk_R RX2 t.1 t.2 (xs t.1) s := by
  classical
  refine ⟨fun i => if hh : ∃ a, (Term.string RX2 i).eval #[] s none [] s = some (.ref a) then hh.choose else 0, fun t ht => ?_⟩
  obtain ⟨a, ha⟩ := h t ht
  have hh : ∃ a, (Term.string RX2 t.1).eval #[] s none [] s = some (.ref a) := ⟨a, ha.2⟩
  show vk_R RX2 t.1 t.2 (if hh : ∃ a, (Term.string RX2 t.1).eval #[] s none [] s = some (.ref a) then hh.choose else 0) s
  rw [dif_pos hh]
  exact ⟨ha.1, hh.choose_spec⟩
theorem K_prim {s : State} {args : Array Value} {ty : FieldType} (h : (Cond.arrayClass ty).before args s = true) : ∃ c : ClassId, ArrOfT s c ty ∧ s.vm.findClass ("[" ++ ty.toString) = some c := by
  obtain ⟨c, k, comp, h1, h2, h3⟩ := Cond.arrayClass_spec h
  exact ⟨c, fun n z => ⟨(fun k h => by cases h), k, h2, comp, h3⟩, h1⟩
theorem K_obj {s : State} {C : String} (h : va_AO C s) : ∃ c : ClassId, ArrOfT s c (.object C) ∧ va_RA s c (.object C) := by
  obtain ⟨comp, c, k, h1, _, h3, h4, h5⟩ := Cond.arrayOver_spec h
  exact ⟨c, fun n z => ⟨(fun k h => by cases h), k, h3, comp, h4⟩, k, comp, h3, h4, h1, h5⟩
theorem nest_in : ∀ w ∈ nestW, w ∈ lw_tbl := by decide +kernel
theorem nest_ot : ∀ w ∈ nestW, w.onTables = true := by decide +kernel
theorem exb_in : ∀ E ∈ excW, ∀ w ∈ excB E, w ∈ lw_tbl := by decide +kernel
theorem exb_ot : ∀ E ∈ excW, ∀ w ∈ excB E, w.onTables = true := by decide +kernel
theorem str_in : ∀ t ∈ strW, Cond.stringRef RX2 t.1 t.2 ∈ lw_tbl := by decide +kernel
theorem str_fl : ∀ t ∈ strW, Cond.exactly (.string RX2 t.1) "java/lang/String" ∈ flatC (Jvm.Cond.and given_1 narrow_1) := by decide +kernel
theorem nc_fl : ∀ q ∈ ncW, Cond.not (.castable q.1 q.2) ∈ flatC (Jvm.Cond.and given_1 narrow_1) := by decide +kernel
theorem zq_fl1 : Cond.isRef (.static Bundle.tN "UNASSIGNED_STACK" Bundle.steD) ∈ flatC (Jvm.Cond.and given_1 narrow_1) := by decide +kernel
theorem zq_fl2 : Cond.isRef (.static Bundle.tN "SUPPRESSED_SENTINEL" Bundle.listD) ∈ flatC (Jvm.Cond.and given_1 narrow_1) := by decide +kernel
theorem P_setl {D : va_G} {ws : va_W} {H : Heap} (hP : va_P D vwCl ws H) (k : Nat) {q : Nat} {cA : ClassId} {n : Nat} {f : Nat → Int64} (g : Nat → Int64) (hk : ws[k]? = some (q, .inl (cA, n, .inr (.inl f)))) (h : ∀ j, j < n → f j = g j) : va_P D vwCl (ws.set k (q, .inl (cA, n, .inr (.inl g)))) H := by
  intro i r hi
  by_cases hik : i = k
  · subst hik
    rw [List.getElem?_set_self (List.getElem?_eq_some_iff.mp hk).1] at hi
    cases hi
    have h0 : H[q]? = some (arrV cA n (fun j => .long (f j))) := hP i _ hk
    show H[q]? = some (arrV cA n (fun j => .long (g j)))
    rw [h0, arrV_ext (fun j hj => by rw [h j hj])]
  · rw [List.getElem?_set_ne (Ne.symm hik)] at hi
    exact hP i r hi
theorem l64_0 : (0 : Int64) = (0 : Int32).toInt64 := by decide
set_option maxHeartbeats 8000000 in
set_option maxRecDepth 100000 in
/-- THE LAW, from its entry -/
theorem whole_start {p : Program} {e : Env} {s : State} {m : MethodId} {below : List Frame} {meth : Method} {c : Code} (l : Launch) (hflags : l.flags = flags0) {b L : Nat} {xs : Nat → Int32} (hL : L ≤ 3584) (C0 : lw_At p s m meth c b L xs) : W p l e room_1 s m #[Value.ref b] below meth c s.heap [] 0 0 (lw_Z below #[Value.ref b] s) (entryFrame m ([Value.ref b] : List Value).toArray 7) := by
  obtain ⟨hx, hb, hr, hml, hown, hts0, hX, hbl, hlk, hgv⟩ := id C0
  have hb : c.code = cL_law := hb
  have hown : s.vm.findClass RL = some m.cls := hown
  have hlf : l.stackTraces = false := by unfold Launch.stackTraces; rw [hflags]; decide +kernel
  have hts : ∀ w ∈ wsL_law, w.before #[Value.ref b] s = true := fun w h => hts0 w (wsL_law_in w h)
  have hgf := flat_of_before _ hgv
  obtain ⟨c0, iS0, hKn0⟩ := u_known (C := RX0) (T := TX0) (N := 9) (n := 9) hts inlX0 (hts (.instantiable RX0 9) (by decide +kernel))
  obtain ⟨c1, iS1, hKn1⟩ := u_known (C := RX1) (T := TX1) (N := 3) (n := 3) hts inlX1 (hts (.instantiable RX1 3) (by decide +kernel))
  obtain ⟨c2, iS2, hKn2⟩ := u_known (C := RX2) (T := TX2) (N := 9) (n := 9) hts inlX2 (hts (.instantiable RX2 9) (by decide +kernel))
  obtain ⟨c3, iS3, hKn3⟩ := u_known (C := RX3) (T := TX3) (N := 22) (n := 22) hts inlX3 (hts (.instantiable RX3 22) (by decide +kernel))
  obtain ⟨D, hKc⟩ : ∃ D : va_G, ∀ (k : Nat) (q : vw_C), vwCl[k]? = some q → u_Kn s q.1 q.2.1 q.2.2 (D.1 k) (D.2 k) := by
    refine ⟨(fun k => if k = 0 then c0 else if k = 1 then c1 else if k = 2 then c2 else c3, fun k => if k = 0 then iS0 else if k = 1 then iS1 else if k = 2 then iS2 else iS3), ?_⟩
    intro k q hq
    match k, hq with
    | 0, hq => cases hq; exact hKn0
    | 1, hq => cases hq; exact hKn1
    | 2, hq => cases hq; exact hKn2
    | 3, hq => cases hq; exact hKn3
    | k + 4, hq => simp [vwCl] at hq
  have haoX1 : va_AO RX1 s := va_AO.of (hts0 (.arrayOver (.object RX1)) (by decide +kernel))
  have haoX0 : va_AO RX0 s := va_AO.of (hts0 (.arrayOver (.object RX0)) (by decide +kernel))
  obtain ⟨a0, ha0, hb0⟩ := K_prim (ty := .int) (hts (.arrayClass .int) (by decide +kernel))
  obtain ⟨a1, ha1, hb1⟩ := K_prim (ty := .boolean) (hts (.arrayClass .boolean) (by decide +kernel))
  obtain ⟨a2, ha2, hb2⟩ := K_obj haoX1
  obtain ⟨a3, ha3, hb3⟩ := K_obj haoX0
  obtain ⟨a4, ha4, hb4⟩ := K_prim (ty := .long) (hts (.arrayClass .long) (by decide +kernel))
  obtain ⟨A, hK⟩ : ∃ A : Nat → ClassId, va_K D vwCl (TY A) s := by
    refine ⟨fun k => if k = 0 then a0 else if k = 1 then a1 else if k = 2 then a2 else if k = 3 then a3 else a4, hKc, fun k q hq => ?_⟩
    match k, hq with
    | 0, hq => cases hq; exact ⟨ha0, hb0⟩
    | 1, hq => cases hq; exact ⟨ha1, hb1⟩
    | 2, hq => cases hq; exact ⟨ha2, hb2⟩
    | 3, hq => cases hq; exact ⟨ha3, hb3⟩
    | 4, hq => cases hq; exact ⟨ha4, hb4⟩
    | k + 5, hq => simp [TY] at hq
  have hN : ∀ w ∈ nestW, va_Nw w s := fun w hw => va_Nw.of (nest_ot w hw) (hts0 w (nest_in w hw))
  obtain ⟨xsr, hstr⟩ := str_all (s := s) (fun t ht => str_ex (hts0 _ (str_in t ht)) (hgf _ (str_fl t ht)))
  have hex : ∀ E ∈ excW, ExW E s := fun E hE w hw => va_Nw.of (exb_ot E hE w hw) (hts0 w (exb_in E hE w hw))
  have hnc : ∀ q ∈ ncW, va_Nc q.1 q.2 s := fun q hq => va_Nc.of (hgf _ (nc_fl q hq))
  obtain ⟨B, hB⟩ : ∃ B : Nat → Prop, B = fun q => s.heap.size ≤ q := ⟨_, rfl⟩
  have hA : ∀ q : Nat, s.heap.size ≤ q → B q := fun q h => by rw [hB]; exact h
  have hS : va_S B s.heap s.heap [] := va_S.rf
  have hP : va_P D vwCl [] s.heap := fun k q h => by simp at h
  have hD : va_D B [] := ⟨fun i j p q h => by simp at h, fun k q h => by simp at h⟩
  have hl := lv_entry ([.ref b]) (n := 7) (Nat.le_of_ble_eq_true rfl)
  rw [lg_entry_eq]
  generalize (lg_sl ([.ref b]) ++ List.replicate (7 - (lg_sl ([.ref b])).length) Slot.unset).toArray = ls at hl ⊢
  have hl : lv_has ls 7 [(0, .ref b)] := hl
  have hw_k8 := hts (.classLink RL 8 RX2) (by decide +kernel)
  have hw_nX2 := hts (.instantiable RX2 9) (by decide +kernel)
  have hw_iX2 := hts (.initialized RX2) (by decide +kernel)
  have hw_imX2 := hts (.instanceMethod yX2_init) (by decide +kernel)
  have hw_ml74 := hts (.methodLink RL 74 yX2_init) (by decide +kernel)
  have hw_k75 := hts (.classLink RL 75 RX3) (by decide +kernel)
  have hw_nX3 := hts (.instantiable RX3 22) (by decide +kernel)
  have hw_iX3 := hts (.initialized RX3) (by decide +kernel)
  have hw_imX3 := hts (.instanceMethod yX3_init) (by decide +kernel)
  have hw_ml77 := hts (.methodLink RL 77 yX3_init) (by decide +kernel)
  have hw_arlong := hts (.arrayClass .long) (by decide +kernel)
  refine va_new (ci := 2) (fs := [.null, .null, .int 0, .null, .null, .null, .null, .int 0, .int 0]) (C := RX2) (T := TX2) (N := 9) hx hb hts inlX2 tyX2 tyX2_ok hown hw_k8 hw_nX2 hw_iX2 hK hP hD hS hA rfl (fun j hj => by rcases (show j = 0 ∨ j = 1 ∨ j = 2 ∨ j = 3 ∨ j = 4 ∨ j = 5 ∨ j = 6 ∨ j = 7 ∨ j = 8 by omega) with rfl | rfl | rfl | rfl | rfl | rfl | rfl | rfl | rfl <;> rfl) (Nat.le_of_ble_eq_true rfl) (Nat.le_of_ble_eq_true rfl) dL_law_0 (fun q0 H hP hD hS => ?_)
  have hP : va_P D vwCl [(q0, .inr (2, [.null, .null, .int 0, .null, .null, .null, .null, .int 0, .int 0]))] H := hP
  have hD : va_D B [(q0, .inr (2, [.null, .null, .int 0, .null, .null, .null, .null, .int 0, .int 0]))] := hD
  refine W.widen (k := 1) (n := 9) (Nat.le_of_ble_eq_true rfl) (Nat.le_of_ble_eq_true rfl) ?_
  refine lv_dup hx hb dL_law_3 rfl ?_
  have hPc := hP.sub (ws' := [(q0, .inr (2, [.null, .null, .int 0, .null, .null, .null, .null, .int 0, .int 0]))]) [0] rfl
  have hDc := hD.sub (ws' := [(q0, .inr (2, [.null, .null, .int 0, .null, .null, .null, .null, .int 0, .int 0]))]) [0] (by decide) rfl
  have hFc := va_free (wc := [(q0, .inr (2, [.null, .null, .int 0, .null, .null, .null, .null, .int 0, .int 0]))]) hD hS hA [0] rfl
  refine va_callv (va_runI (As := []) (rest := [.ref q0]) ⟨hx, hb, hml, hown, hts⟩ (c_X2_init l D A q0 H.size) (cwI 0 hts gL_law_X2_init rfl rfl rfl hw_iX2 hw_ml74 hw_imX2 rfl (by decide +kernel) ⟨Nat.le_of_ble_eq_true rfl, Nat.le_of_ble_eq_true rfl⟩) ⟨fun a U g mk q => by obtain ⟨q0, q1, qP, qK, qD, qN, qA1, qA0⟩ := q; exact ⟨q0, q1, qP, va_K.moved (u := U) (U := U.calling g mk a) (Vm.Alike.refl U.vm) qK, qD, nest_warm (State.WarmedH.refl U) qN, qA1, qA0⟩, fun U hU hW => ⟨rfl, by rw [hU], by rw [hU]; exact hPc, va_K.moved hW.alike hK, hDc.weaken (fun _ _ _ _ => trivial), nest_warm hW hN, AO_warm hW haoX1, AO_warm hW haoX0⟩⟩ rfl rfl hl.1 rfl (lv_room (Nat.le_of_ble_eq_true rfl)) dL_law_4 ⟨Nat.le_of_ble_eq_true rfl, Nat.le_of_ble_eq_true rfl⟩) hS (fun q _ h => hFc q h) hFc (fun u t H1 locs ht hvm hw hB hz1 hk1 hS => ?_)
  obtain ⟨u1, rfl⟩ : ∃ z, z = u := ⟨_, rfl⟩
  obtain ⟨hP1, hK1, hD1⟩ := hB
  rw [ht] at hP1
  obtain ⟨hP, hD⟩ := va_join (wr := []) (w1 := [(q0, .inr (2, [.ref (u1 35), .ref (u1 1), .int 0, .ref (u1 2), .ref (u1 3), .ref (u1 4), .ref (u1 5), .int 0, .int 0])), ((u1 1), zQ A 2 8 (fun j => some (u1 (11 + 3 * j)))), ((u1 2), zI A 64), ((u1 3), zI A 64), ((u1 4), zZ A 64), ((u1 5), zQ A 3 5 (fun j => some (u1 (6 + j)))), ((u1 6), zG0), ((u1 7), zG0), ((u1 8), zG0), ((u1 9), zG0), ((u1 10), zG0), ((u1 11), zR (u1 12) (u1 13)), ((u1 12), zI A 8), ((u1 13), zI A 8), ((u1 14), zR (u1 15) (u1 16)), ((u1 15), zI A 8), ((u1 16), zI A 8), ((u1 17), zR (u1 18) (u1 19)), ((u1 18), zI A 8), ((u1 19), zI A 8), ((u1 20), zR (u1 21) (u1 22)), ((u1 21), zI A 8), ((u1 22), zI A 8), ((u1 23), zR (u1 24) (u1 25)), ((u1 24), zI A 8), ((u1 25), zI A 8), ((u1 26), zR (u1 27) (u1 28)), ((u1 27), zI A 8), ((u1 28), zI A 8), ((u1 29), zR (u1 30) (u1 31)), ((u1 30), zI A 8), ((u1 31), zI A 8), ((u1 32), zR (u1 33) (u1 34)), ((u1 33), zI A 8), ((u1 34), zI A 8), ((u1 35), zR (u1 36) (u1 37)), ((u1 36), zI A 8), ((u1 37), zI A 8)]) hP hD [0] [] rfl rfl (by decide) (by decide) hk1 hFc hP1 hD1
  generalize H1 = H at hP hS ⊢
  have hP : va_P D vwCl [(q0, .inr (2, [.ref (u1 35), .ref (u1 1), .int 0, .ref (u1 2), .ref (u1 3), .ref (u1 4), .ref (u1 5), .int 0, .int 0])), ((u1 1), zQ A 2 8 (fun j => some (u1 (11 + 3 * j)))), ((u1 2), zI A 64), ((u1 3), zI A 64), ((u1 4), zZ A 64), ((u1 5), zQ A 3 5 (fun j => some (u1 (6 + j)))), ((u1 6), zG0), ((u1 7), zG0), ((u1 8), zG0), ((u1 9), zG0), ((u1 10), zG0), ((u1 11), zR (u1 12) (u1 13)), ((u1 12), zI A 8), ((u1 13), zI A 8), ((u1 14), zR (u1 15) (u1 16)), ((u1 15), zI A 8), ((u1 16), zI A 8), ((u1 17), zR (u1 18) (u1 19)), ((u1 18), zI A 8), ((u1 19), zI A 8), ((u1 20), zR (u1 21) (u1 22)), ((u1 21), zI A 8), ((u1 22), zI A 8), ((u1 23), zR (u1 24) (u1 25)), ((u1 24), zI A 8), ((u1 25), zI A 8), ((u1 26), zR (u1 27) (u1 28)), ((u1 27), zI A 8), ((u1 28), zI A 8), ((u1 29), zR (u1 30) (u1 31)), ((u1 30), zI A 8), ((u1 31), zI A 8), ((u1 32), zR (u1 33) (u1 34)), ((u1 33), zI A 8), ((u1 34), zI A 8), ((u1 35), zR (u1 36) (u1 37)), ((u1 36), zI A 8), ((u1 37), zI A 8)] H := hP
  have hD : va_D B [(q0, .inr (2, [.ref (u1 35), .ref (u1 1), .int 0, .ref (u1 2), .ref (u1 3), .ref (u1 4), .ref (u1 5), .int 0, .int 0])), ((u1 1), zQ A 2 8 (fun j => some (u1 (11 + 3 * j)))), ((u1 2), zI A 64), ((u1 3), zI A 64), ((u1 4), zZ A 64), ((u1 5), zQ A 3 5 (fun j => some (u1 (6 + j)))), ((u1 6), zG0), ((u1 7), zG0), ((u1 8), zG0), ((u1 9), zG0), ((u1 10), zG0), ((u1 11), zR (u1 12) (u1 13)), ((u1 12), zI A 8), ((u1 13), zI A 8), ((u1 14), zR (u1 15) (u1 16)), ((u1 15), zI A 8), ((u1 16), zI A 8), ((u1 17), zR (u1 18) (u1 19)), ((u1 18), zI A 8), ((u1 19), zI A 8), ((u1 20), zR (u1 21) (u1 22)), ((u1 21), zI A 8), ((u1 22), zI A 8), ((u1 23), zR (u1 24) (u1 25)), ((u1 24), zI A 8), ((u1 25), zI A 8), ((u1 26), zR (u1 27) (u1 28)), ((u1 27), zI A 8), ((u1 28), zI A 8), ((u1 29), zR (u1 30) (u1 31)), ((u1 30), zI A 8), ((u1 31), zI A 8), ((u1 32), zR (u1 33) (u1 34)), ((u1 33), zI A 8), ((u1 34), zI A 8), ((u1 35), zR (u1 36) (u1 37)), ((u1 36), zI A 8), ((u1 37), zI A 8)] := hD
  refine W.widen (k := 38) (n := 430) (Nat.le_of_ble_eq_true rfl) (Nat.le_of_ble_eq_true rfl) ?_
  refine lv_astore_n (lv' := [(1, .ref q0), (0, .ref b)]) hx hb dL_law_7 rfl hl (by decide) rfl (fun ls hl => ?_)
  refine va_new (ci := 3) (fs := [.int 0, .int 0, .null, .null, .int 0, .null, .null, .null, .null, .int 0, .null, .null, .null, .null, .null, .null, .null, .null, .null, .int 0, .null, .null]) (C := RX3) (T := TX3) (N := 22) hx hb hts inlX3 tyX3 tyX3_ok hown hw_k75 hw_nX3 hw_iX3 hK hP hD hS hA rfl (fun j hj => by rcases (show j = 0 ∨ j = 1 ∨ j = 2 ∨ j = 3 ∨ j = 4 ∨ j = 5 ∨ j = 6 ∨ j = 7 ∨ j = 8 ∨ j = 9 ∨ j = 10 ∨ j = 11 ∨ j = 12 ∨ j = 13 ∨ j = 14 ∨ j = 15 ∨ j = 16 ∨ j = 17 ∨ j = 18 ∨ j = 19 ∨ j = 20 ∨ j = 21 by omega) with rfl | rfl | rfl | rfl | rfl | rfl | rfl | rfl | rfl | rfl | rfl | rfl | rfl | rfl | rfl | rfl | rfl | rfl | rfl | rfl | rfl | rfl <;> rfl) (Nat.le_of_ble_eq_true rfl) (Nat.le_of_ble_eq_true rfl) dL_law_8 (fun q2 H hP hD hS => ?_)
  have hP : va_P D vwCl [(q0, .inr (2, [.ref (u1 35), .ref (u1 1), .int 0, .ref (u1 2), .ref (u1 3), .ref (u1 4), .ref (u1 5), .int 0, .int 0])), ((u1 1), zQ A 2 8 (fun j => some (u1 (11 + 3 * j)))), ((u1 2), zI A 64), ((u1 3), zI A 64), ((u1 4), zZ A 64), ((u1 5), zQ A 3 5 (fun j => some (u1 (6 + j)))), ((u1 6), zG0), ((u1 7), zG0), ((u1 8), zG0), ((u1 9), zG0), ((u1 10), zG0), ((u1 11), zR (u1 12) (u1 13)), ((u1 12), zI A 8), ((u1 13), zI A 8), ((u1 14), zR (u1 15) (u1 16)), ((u1 15), zI A 8), ((u1 16), zI A 8), ((u1 17), zR (u1 18) (u1 19)), ((u1 18), zI A 8), ((u1 19), zI A 8), ((u1 20), zR (u1 21) (u1 22)), ((u1 21), zI A 8), ((u1 22), zI A 8), ((u1 23), zR (u1 24) (u1 25)), ((u1 24), zI A 8), ((u1 25), zI A 8), ((u1 26), zR (u1 27) (u1 28)), ((u1 27), zI A 8), ((u1 28), zI A 8), ((u1 29), zR (u1 30) (u1 31)), ((u1 30), zI A 8), ((u1 31), zI A 8), ((u1 32), zR (u1 33) (u1 34)), ((u1 33), zI A 8), ((u1 34), zI A 8), ((u1 35), zR (u1 36) (u1 37)), ((u1 36), zI A 8), ((u1 37), zI A 8), (q2, .inr (3, [.int 0, .int 0, .null, .null, .int 0, .null, .null, .null, .null, .int 0, .null, .null, .null, .null, .null, .null, .null, .null, .null, .int 0, .null, .null]))] H := hP
  have hD : va_D B [(q0, .inr (2, [.ref (u1 35), .ref (u1 1), .int 0, .ref (u1 2), .ref (u1 3), .ref (u1 4), .ref (u1 5), .int 0, .int 0])), ((u1 1), zQ A 2 8 (fun j => some (u1 (11 + 3 * j)))), ((u1 2), zI A 64), ((u1 3), zI A 64), ((u1 4), zZ A 64), ((u1 5), zQ A 3 5 (fun j => some (u1 (6 + j)))), ((u1 6), zG0), ((u1 7), zG0), ((u1 8), zG0), ((u1 9), zG0), ((u1 10), zG0), ((u1 11), zR (u1 12) (u1 13)), ((u1 12), zI A 8), ((u1 13), zI A 8), ((u1 14), zR (u1 15) (u1 16)), ((u1 15), zI A 8), ((u1 16), zI A 8), ((u1 17), zR (u1 18) (u1 19)), ((u1 18), zI A 8), ((u1 19), zI A 8), ((u1 20), zR (u1 21) (u1 22)), ((u1 21), zI A 8), ((u1 22), zI A 8), ((u1 23), zR (u1 24) (u1 25)), ((u1 24), zI A 8), ((u1 25), zI A 8), ((u1 26), zR (u1 27) (u1 28)), ((u1 27), zI A 8), ((u1 28), zI A 8), ((u1 29), zR (u1 30) (u1 31)), ((u1 30), zI A 8), ((u1 31), zI A 8), ((u1 32), zR (u1 33) (u1 34)), ((u1 33), zI A 8), ((u1 34), zI A 8), ((u1 35), zR (u1 36) (u1 37)), ((u1 36), zI A 8), ((u1 37), zI A 8), (q2, .inr (3, [.int 0, .int 0, .null, .null, .int 0, .null, .null, .null, .null, .int 0, .null, .null, .null, .null, .null, .null, .null, .null, .null, .int 0, .null, .null]))] := hD
  refine W.widen (k := 39) (n := 452) (Nat.le_of_ble_eq_true rfl) (Nat.le_of_ble_eq_true rfl) ?_
  refine lv_dup hx hb dL_law_11 rfl ?_
  have hPc := hP.sub (ws' := [(q2, .inr (3, [.int 0, .int 0, .null, .null, .int 0, .null, .null, .null, .null, .int 0, .null, .null, .null, .null, .null, .null, .null, .null, .null, .int 0, .null, .null]))]) [38] rfl
  have hDc := hD.sub (ws' := [(q2, .inr (3, [.int 0, .int 0, .null, .null, .int 0, .null, .null, .null, .null, .int 0, .null, .null, .null, .null, .null, .null, .null, .null, .null, .int 0, .null, .null]))]) [38] (by decide) rfl
  have hFc := va_free (wc := [(q2, .inr (3, [.int 0, .int 0, .null, .null, .int 0, .null, .null, .null, .null, .int 0, .null, .null, .null, .null, .null, .null, .null, .null, .null, .int 0, .null, .null]))]) hD hS hA [38] rfl
  refine va_callv (va_runI (As := []) (rest := [.ref q2]) ⟨hx, hb, hml, hown, hts⟩ (c_X3_init l D A q2 H.size) (cwI 0 hts gL_law_X3_init rfl rfl rfl hw_iX3 hw_ml77 hw_imX3 rfl (by decide +kernel) ⟨Nat.le_of_ble_eq_true rfl, Nat.le_of_ble_eq_true rfl⟩) ⟨fun a U g mk q => by obtain ⟨q0, q1, qP, qK, qD⟩ := q; exact ⟨q0, q1, qP, va_K.moved (u := U) (U := U.calling g mk a) (Vm.Alike.refl U.vm) qK, qD⟩, fun U hU hW => ⟨rfl, by rw [hU], by rw [hU]; exact hPc, va_K.moved hW.alike hK, hDc.weaken (fun _ _ _ _ => trivial)⟩⟩ rfl rfl hl.1 rfl (lv_room (Nat.le_of_ble_eq_true rfl)) dL_law_12 ⟨Nat.le_of_ble_eq_true rfl, Nat.le_of_ble_eq_true rfl⟩) hS (fun q _ h => hFc q h) hFc (fun u t H1 locs ht hvm hw hB hz1 hk1 hS => ?_)
  obtain ⟨u3, rfl⟩ : ∃ z, z = u := ⟨_, rfl⟩
  obtain ⟨hP1, hK1, hD1⟩ := hB
  rw [ht] at hP1
  obtain ⟨hP, hD⟩ := va_join (wr := [(q0, .inr (2, [.ref (u1 35), .ref (u1 1), .int 0, .ref (u1 2), .ref (u1 3), .ref (u1 4), .ref (u1 5), .int 0, .int 0])), ((u1 1), zQ A 2 8 (fun j => some (u1 (11 + 3 * j)))), ((u1 2), zI A 64), ((u1 3), zI A 64), ((u1 4), zZ A 64), ((u1 5), zQ A 3 5 (fun j => some (u1 (6 + j)))), ((u1 6), zG0), ((u1 7), zG0), ((u1 8), zG0), ((u1 9), zG0), ((u1 10), zG0), ((u1 11), zR (u1 12) (u1 13)), ((u1 12), zI A 8), ((u1 13), zI A 8), ((u1 14), zR (u1 15) (u1 16)), ((u1 15), zI A 8), ((u1 16), zI A 8), ((u1 17), zR (u1 18) (u1 19)), ((u1 18), zI A 8), ((u1 19), zI A 8), ((u1 20), zR (u1 21) (u1 22)), ((u1 21), zI A 8), ((u1 22), zI A 8), ((u1 23), zR (u1 24) (u1 25)), ((u1 24), zI A 8), ((u1 25), zI A 8), ((u1 26), zR (u1 27) (u1 28)), ((u1 27), zI A 8), ((u1 28), zI A 8), ((u1 29), zR (u1 30) (u1 31)), ((u1 30), zI A 8), ((u1 31), zI A 8), ((u1 32), zR (u1 33) (u1 34)), ((u1 33), zI A 8), ((u1 34), zI A 8), ((u1 35), zR (u1 36) (u1 37)), ((u1 36), zI A 8), ((u1 37), zI A 8)]) (w1 := [(q2, .inr (3, [.int 0, .int 0, .ref (u3 39), .ref (u3 40), .int 0, .ref (u3 41), .ref (u3 42), .ref (u3 43), .ref (u3 44), .int 0, .ref (u3 45), .ref (u3 46), .ref (u3 47), .ref (u3 48), .ref (u3 49), .ref (u3 50), .ref (u3 51), .ref (u3 52), .ref (u3 53), .int 0, .ref (u3 54), .ref (u3 55)])), ((u3 39), zI A 8), ((u3 40), zI A 8), ((u3 41), zI A 8), ((u3 42), zI A 64), ((u3 43), zI A 64), ((u3 44), zZ A 64), ((u3 45), zI A 5), ((u3 46), zI A 5), ((u3 47), zI A 5), ((u3 48), zI A 5), ((u3 49), zI A 5), ((u3 50), zI A 5), ((u3 51), zI A 5), ((u3 52), zI A 5), ((u3 53), zI A 5), ((u3 54), zZ A 64), ((u3 55), zI A 64)]) hP hD [38] [0, 1, 2, 3, 4, 5, 6, 7, 8, 9, 10, 11, 12, 13, 14, 15, 16, 17, 18, 19, 20, 21, 22, 23, 24, 25, 26, 27, 28, 29, 30, 31, 32, 33, 34, 35, 36, 37] rfl rfl (by decide) (by decide) hk1 hFc hP1 hD1
  generalize H1 = H at hP hS ⊢
  have hP : va_P D vwCl [(q0, .inr (2, [.ref (u1 35), .ref (u1 1), .int 0, .ref (u1 2), .ref (u1 3), .ref (u1 4), .ref (u1 5), .int 0, .int 0])), ((u1 1), zQ A 2 8 (fun j => some (u1 (11 + 3 * j)))), ((u1 2), zI A 64), ((u1 3), zI A 64), ((u1 4), zZ A 64), ((u1 5), zQ A 3 5 (fun j => some (u1 (6 + j)))), ((u1 6), zG0), ((u1 7), zG0), ((u1 8), zG0), ((u1 9), zG0), ((u1 10), zG0), ((u1 11), zR (u1 12) (u1 13)), ((u1 12), zI A 8), ((u1 13), zI A 8), ((u1 14), zR (u1 15) (u1 16)), ((u1 15), zI A 8), ((u1 16), zI A 8), ((u1 17), zR (u1 18) (u1 19)), ((u1 18), zI A 8), ((u1 19), zI A 8), ((u1 20), zR (u1 21) (u1 22)), ((u1 21), zI A 8), ((u1 22), zI A 8), ((u1 23), zR (u1 24) (u1 25)), ((u1 24), zI A 8), ((u1 25), zI A 8), ((u1 26), zR (u1 27) (u1 28)), ((u1 27), zI A 8), ((u1 28), zI A 8), ((u1 29), zR (u1 30) (u1 31)), ((u1 30), zI A 8), ((u1 31), zI A 8), ((u1 32), zR (u1 33) (u1 34)), ((u1 33), zI A 8), ((u1 34), zI A 8), ((u1 35), zR (u1 36) (u1 37)), ((u1 36), zI A 8), ((u1 37), zI A 8), (q2, .inr (3, [.int 0, .int 0, .ref (u3 39), .ref (u3 40), .int 0, .ref (u3 41), .ref (u3 42), .ref (u3 43), .ref (u3 44), .int 0, .ref (u3 45), .ref (u3 46), .ref (u3 47), .ref (u3 48), .ref (u3 49), .ref (u3 50), .ref (u3 51), .ref (u3 52), .ref (u3 53), .int 0, .ref (u3 54), .ref (u3 55)])), ((u3 39), zI A 8), ((u3 40), zI A 8), ((u3 41), zI A 8), ((u3 42), zI A 64), ((u3 43), zI A 64), ((u3 44), zZ A 64), ((u3 45), zI A 5), ((u3 46), zI A 5), ((u3 47), zI A 5), ((u3 48), zI A 5), ((u3 49), zI A 5), ((u3 50), zI A 5), ((u3 51), zI A 5), ((u3 52), zI A 5), ((u3 53), zI A 5), ((u3 54), zZ A 64), ((u3 55), zI A 64)] H := hP
  have hD : va_D B [(q0, .inr (2, [.ref (u1 35), .ref (u1 1), .int 0, .ref (u1 2), .ref (u1 3), .ref (u1 4), .ref (u1 5), .int 0, .int 0])), ((u1 1), zQ A 2 8 (fun j => some (u1 (11 + 3 * j)))), ((u1 2), zI A 64), ((u1 3), zI A 64), ((u1 4), zZ A 64), ((u1 5), zQ A 3 5 (fun j => some (u1 (6 + j)))), ((u1 6), zG0), ((u1 7), zG0), ((u1 8), zG0), ((u1 9), zG0), ((u1 10), zG0), ((u1 11), zR (u1 12) (u1 13)), ((u1 12), zI A 8), ((u1 13), zI A 8), ((u1 14), zR (u1 15) (u1 16)), ((u1 15), zI A 8), ((u1 16), zI A 8), ((u1 17), zR (u1 18) (u1 19)), ((u1 18), zI A 8), ((u1 19), zI A 8), ((u1 20), zR (u1 21) (u1 22)), ((u1 21), zI A 8), ((u1 22), zI A 8), ((u1 23), zR (u1 24) (u1 25)), ((u1 24), zI A 8), ((u1 25), zI A 8), ((u1 26), zR (u1 27) (u1 28)), ((u1 27), zI A 8), ((u1 28), zI A 8), ((u1 29), zR (u1 30) (u1 31)), ((u1 30), zI A 8), ((u1 31), zI A 8), ((u1 32), zR (u1 33) (u1 34)), ((u1 33), zI A 8), ((u1 34), zI A 8), ((u1 35), zR (u1 36) (u1 37)), ((u1 36), zI A 8), ((u1 37), zI A 8), (q2, .inr (3, [.int 0, .int 0, .ref (u3 39), .ref (u3 40), .int 0, .ref (u3 41), .ref (u3 42), .ref (u3 43), .ref (u3 44), .int 0, .ref (u3 45), .ref (u3 46), .ref (u3 47), .ref (u3 48), .ref (u3 49), .ref (u3 50), .ref (u3 51), .ref (u3 52), .ref (u3 53), .int 0, .ref (u3 54), .ref (u3 55)])), ((u3 39), zI A 8), ((u3 40), zI A 8), ((u3 41), zI A 8), ((u3 42), zI A 64), ((u3 43), zI A 64), ((u3 44), zZ A 64), ((u3 45), zI A 5), ((u3 46), zI A 5), ((u3 47), zI A 5), ((u3 48), zI A 5), ((u3 49), zI A 5), ((u3 50), zI A 5), ((u3 51), zI A 5), ((u3 52), zI A 5), ((u3 53), zI A 5), ((u3 54), zZ A 64), ((u3 55), zI A 64)] := hD
  refine W.widen (k := 56) (n := 841) (Nat.le_of_ble_eq_true rfl) (Nat.le_of_ble_eq_true rfl) ?_
  refine lv_astore_n (lv' := [(2, .ref q2), (1, .ref q0), (0, .ref b)]) hx hb dL_law_15 rfl hl (by decide) rfl (fun ls hl => ?_)
  refine lv_iconst (v := 1) hx hb dL_law_16 (by decide) ?_
  refine n_newL hx hb hw_arlong hK hP hD hS hA (Nat.le_of_ble_eq_true rfl) (Nat.le_of_ble_eq_true rfl) dL_law_17 (fun q4 H hP hD hS => ?_)
  have hP : va_P D vwCl [(q0, .inr (2, [.ref (u1 35), .ref (u1 1), .int 0, .ref (u1 2), .ref (u1 3), .ref (u1 4), .ref (u1 5), .int 0, .int 0])), ((u1 1), zQ A 2 8 (fun j => some (u1 (11 + 3 * j)))), ((u1 2), zI A 64), ((u1 3), zI A 64), ((u1 4), zZ A 64), ((u1 5), zQ A 3 5 (fun j => some (u1 (6 + j)))), ((u1 6), zG0), ((u1 7), zG0), ((u1 8), zG0), ((u1 9), zG0), ((u1 10), zG0), ((u1 11), zR (u1 12) (u1 13)), ((u1 12), zI A 8), ((u1 13), zI A 8), ((u1 14), zR (u1 15) (u1 16)), ((u1 15), zI A 8), ((u1 16), zI A 8), ((u1 17), zR (u1 18) (u1 19)), ((u1 18), zI A 8), ((u1 19), zI A 8), ((u1 20), zR (u1 21) (u1 22)), ((u1 21), zI A 8), ((u1 22), zI A 8), ((u1 23), zR (u1 24) (u1 25)), ((u1 24), zI A 8), ((u1 25), zI A 8), ((u1 26), zR (u1 27) (u1 28)), ((u1 27), zI A 8), ((u1 28), zI A 8), ((u1 29), zR (u1 30) (u1 31)), ((u1 30), zI A 8), ((u1 31), zI A 8), ((u1 32), zR (u1 33) (u1 34)), ((u1 33), zI A 8), ((u1 34), zI A 8), ((u1 35), zR (u1 36) (u1 37)), ((u1 36), zI A 8), ((u1 37), zI A 8), (q2, .inr (3, [.int 0, .int 0, .ref (u3 39), .ref (u3 40), .int 0, .ref (u3 41), .ref (u3 42), .ref (u3 43), .ref (u3 44), .int 0, .ref (u3 45), .ref (u3 46), .ref (u3 47), .ref (u3 48), .ref (u3 49), .ref (u3 50), .ref (u3 51), .ref (u3 52), .ref (u3 53), .int 0, .ref (u3 54), .ref (u3 55)])), ((u3 39), zI A 8), ((u3 40), zI A 8), ((u3 41), zI A 8), ((u3 42), zI A 64), ((u3 43), zI A 64), ((u3 44), zZ A 64), ((u3 45), zI A 5), ((u3 46), zI A 5), ((u3 47), zI A 5), ((u3 48), zI A 5), ((u3 49), zI A 5), ((u3 50), zI A 5), ((u3 51), zI A 5), ((u3 52), zI A 5), ((u3 53), zI A 5), ((u3 54), zZ A 64), ((u3 55), zI A 64), (q4, zL A)] H := hP
  have hD : va_D B [(q0, .inr (2, [.ref (u1 35), .ref (u1 1), .int 0, .ref (u1 2), .ref (u1 3), .ref (u1 4), .ref (u1 5), .int 0, .int 0])), ((u1 1), zQ A 2 8 (fun j => some (u1 (11 + 3 * j)))), ((u1 2), zI A 64), ((u1 3), zI A 64), ((u1 4), zZ A 64), ((u1 5), zQ A 3 5 (fun j => some (u1 (6 + j)))), ((u1 6), zG0), ((u1 7), zG0), ((u1 8), zG0), ((u1 9), zG0), ((u1 10), zG0), ((u1 11), zR (u1 12) (u1 13)), ((u1 12), zI A 8), ((u1 13), zI A 8), ((u1 14), zR (u1 15) (u1 16)), ((u1 15), zI A 8), ((u1 16), zI A 8), ((u1 17), zR (u1 18) (u1 19)), ((u1 18), zI A 8), ((u1 19), zI A 8), ((u1 20), zR (u1 21) (u1 22)), ((u1 21), zI A 8), ((u1 22), zI A 8), ((u1 23), zR (u1 24) (u1 25)), ((u1 24), zI A 8), ((u1 25), zI A 8), ((u1 26), zR (u1 27) (u1 28)), ((u1 27), zI A 8), ((u1 28), zI A 8), ((u1 29), zR (u1 30) (u1 31)), ((u1 30), zI A 8), ((u1 31), zI A 8), ((u1 32), zR (u1 33) (u1 34)), ((u1 33), zI A 8), ((u1 34), zI A 8), ((u1 35), zR (u1 36) (u1 37)), ((u1 36), zI A 8), ((u1 37), zI A 8), (q2, .inr (3, [.int 0, .int 0, .ref (u3 39), .ref (u3 40), .int 0, .ref (u3 41), .ref (u3 42), .ref (u3 43), .ref (u3 44), .int 0, .ref (u3 45), .ref (u3 46), .ref (u3 47), .ref (u3 48), .ref (u3 49), .ref (u3 50), .ref (u3 51), .ref (u3 52), .ref (u3 53), .int 0, .ref (u3 54), .ref (u3 55)])), ((u3 39), zI A 8), ((u3 40), zI A 8), ((u3 41), zI A 8), ((u3 42), zI A 64), ((u3 43), zI A 64), ((u3 44), zZ A 64), ((u3 45), zI A 5), ((u3 46), zI A 5), ((u3 47), zI A 5), ((u3 48), zI A 5), ((u3 49), zI A 5), ((u3 50), zI A 5), ((u3 51), zI A 5), ((u3 52), zI A 5), ((u3 53), zI A 5), ((u3 54), zZ A 64), ((u3 55), zI A 64), (q4, zL A)] := hD
  refine W.widen (k := 57) (n := 842) (Nat.le_of_ble_eq_true rfl) (Nat.le_of_ble_eq_true rfl) ?_
  refine lv_astore_n (lv' := [(3, .ref q4), (2, .ref q2), (1, .ref q0), (0, .ref b)]) hx hb dL_law_19 rfl hl (by decide) rfl (fun ls hl => ?_)
  obtain ⟨xaF, hxa⟩ : ∃ xaF : Nat → Nat, xaF = (fun id => if id < 38 then (if id = 0 then q0 else u1 id) else if id < 56 then (if id = 38 then q2 else u3 id) else q4) := ⟨_, rfl⟩
  have hP := P_setq hP 1 (fun j => some (xaF (11 + 3 * j))) rfl (fun j hj => by subst hxa; simp only [if_pos (show 11 + 3 * j < 38 by omega), if_neg (show ¬ 11 + 3 * j = 0 by omega)])
  have hD := D_setq (z' := zQ A 2 8 (fun j => some (xaF (11 + 3 * j)))) (k := 1) hD rfl
  have hP := P_setq hP 5 (fun j => some (xaF (6 + j))) rfl (fun j hj => by subst hxa; simp only [if_pos (show 6 + j < 38 by omega), if_neg (show ¬ 6 + j = 0 by omega)])
  have hD := D_setq (z' := zQ A 3 5 (fun j => some (xaF (6 + j)))) (k := 5) hD rfl
  have hP := P_setl hP 56 (fun _ => (0 : Int32).toInt64) rfl (fun j hj => l64_0)
  have hD := D_setq (z' := .inl (A 4, 1, .inr (.inl (fun _ => (0 : Int32).toInt64)))) (k := 56) hD rfl
  obtain ⟨x, hxx⟩ : ∃ x : Cx, x = (D, A, s.heap.size, xaF, xsr, b, L, xs) := ⟨_, rfl⟩
  have hP : va_P (xD x) vwCl (wAll x (fun _ _ => 0)) H := by subst hxx; subst hxa; exact hP
  have hD : va_D B (wAll x (fun _ _ => 0)) := by subst hxx; subst hxa; exact hD
  have hBg : B = gF x := by subst hxx; rw [hB]; rfl
  have hXB : xB x = s.heap.size := by rw [hxx]
  have hGS : GS x s := by
    refine ⟨by rw [hxx]; exact hK, fun i j hi hj hij => ?_, fun i hi => ?_, by rw [hxx]; exact hbl, hN, by rw [hxx]; exact hstr, hex, hnc⟩
    · exact hD.1 i j _ _ (wAll_get hi rfl) (wAll_get hj rfl) hij
    · have := hD.2 i _ (wAll_get hi rfl)
      rw [hB] at this
      rw [hXB]; exact this
  have hGZ : GZ x s s.heap := by
    refine ⟨?_, ?_, by rw [hxx]; exact hX, by rw [hXB]; exact Nat.le_refl _⟩
    · exact vx_Zqof (hts0 (.laysStatic Bundle.tN "UNASSIGNED_STACK" Bundle.steD) (by decide +kernel)) (hts0 (.initialized Bundle.tN) (by decide +kernel)) (hgf _ zq_fl1) (fun a ha => by show ¬ xB x ≤ a; rw [hXB]; omega)
    · exact vx_Zqof (hts0 (.laysStatic Bundle.tN "SUPPRESSED_SENTINEL" Bundle.listD) (by decide +kernel)) (hts0 (.initialized Bundle.tN) (by decide +kernel)) (hgf _ zq_fl2) (fun a ha => by show ¬ xB x ≤ a; rw [hXB]; omega)
  have hV : va_S (gF x) s.heap H locs := by rw [← hBg]; exact hS
  have e0 : q0 = xa x 0 := by rw [hxx, hxa]; rfl
  have e38 : q2 = xa x 38 := by rw [hxx, hxa]; rfl
  have e56 : q4 = xa x 56 := by rw [hxx, hxa]; rfl
  have eb : b = xb x := by rw [hxx]
  rw [e0, e38, e56] at hl
  refine lv_iconst (v := 0) hx hb dL_law_20 (by decide) ?_
  refine lv_istore (lv' := [(4, .int 0), (3, .ref (xa x 56)), (2, .ref (xa x 38)), (1, .ref (xa x 0)), (0, .ref b)]) hx hb dL_law_21 hl (by decide) rfl (fun ls hl => ?_)
  refine W.widen (k := 57 + 5 * 0) (n := 1400 + 30 * 0) (Nat.le_of_ble_eq_true rfl) (Nat.le_of_ble_eq_true rfl) ?_
  subst eb
  exact law_loop hlf (by rw [hxx]; exact hL) hx hb hml hown hts hGS hGZ hr hlk hXB 514 0 (by omega) (by omega) _ 0 0 0 _ st_0 _ _ hP hV ls (lv_sub hl [0, 4, 3, 2, 1] rfl)
