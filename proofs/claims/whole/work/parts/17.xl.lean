/-! The law's helpers: a call of the office, its exceptions as numbers, its answer in the row. -/
def lcd (hs : List String) : Option String → Int32
  | none => 0
  | some E => if hs[0]? = some E then 1 else if hs[1]? = some E then 2 else 3
def isE (S : List String) (o : Option String) : Prop := ∀ E, o = some E → E ∈ S
theorem orE_is {S : List String} {a b : Option String} (h1 : isE S a) (h2 : isE S b) : isE S (orE a b) := by
  intro E h
  cases a with
  | none => exact h2 E h
  | some e => cases h; exact h1 _ rfl
theorem ite_is {S : List String} {p : Prop} [Decidable p] {e : String} (h : e ∈ S) : isE S (if p then some e else none) := by
  intro E hE
  split at hE
  · cases hE; exact h
  · cases hE
theorem is_draft {M : Nat → Nat → Int32} {dn : Nat} {px py : Int32} : isE [eA, eI] (erDr M dn px py) := orE_is (ite_is (by decide)) (ite_is (by decide))
theorem is_lay {cn dn : Nat} : isE [eI] (erLay cn dn) := ite_is (by decide)
theorem isPt {S : List String} (h : eX ∈ S) {cn : Nat} {pn : Nat → Nat} {a q : Int32} : isE S (erPt cn pn a q) := orE_is (ite_is h) (ite_is h)
theorem isPc {S : List String} (h : eX ∈ S) {cn : Nat} {pn : Nat → Nat} {a q : Int32} : isE S (erPc cn pn a q) := orE_is (ite_is h) (ite_is h)
theorem isCC {S : List String} (h : eX ∈ S) {cn : Nat} {a b : Int32} : isE S (erCC cn a b) := orE_is (ite_is h) (ite_is h)
theorem is_move {M : Nat → Nat → Int32} {cn : Nat} {pn : Nat → Nat} {a q px py : Int32} : isE [eX, eA, eI] (erMv M cn pn a q px py) := orE_is (isPt (by decide)) (orE_is (ite_is (by decide)) (ite_is (by decide)))
theorem is_point {cn : Nat} {pn : Nat → Nat} {a q : Int32} : isE [eX] (erPt cn pn a q) := isPt (by decide)
theorem is_crossings {cn : Nat} {a b : Int32} : isE [eX] (erCC cn a b) := isCC (by decide)
theorem is_crossingsAnew {cn : Nat} {a b : Int32} : isE [eX] (erCC cn a b) := isCC (by decide)
theorem is_isWell {cn : Nat} {a b : Int32} : isE [eX] (erCC cn a b) := isCC (by decide)
theorem is_isAgreed {cn : Nat} {a b : Int32} : isE [eX] (erCC cn a b) := isCC (by decide)
theorem is_agree {M : Nat → Nat → Int32} {cn : Nat} {a b : Int32} : isE [eX, eI] (erAg M cn a b) := orE_is (isCC (by decide)) (ite_is (by decide))
theorem is_ground {gn : Nat} {le lo ri hh fr to : Int32} : isE [eA, eI] (erGr gn le lo ri hh fr to) := orE_is (ite_is (by decide)) (orE_is (ite_is (by decide)) (orE_is (ite_is (by decide)) (orE_is (ite_is (by decide)) (orE_is (ite_is (by decide)) (ite_is (by decide))))))
theorem is_tell {M : Nat → Nat → Int32} {gn : Nat} {g am : Int32} : isE [eX, eA, eI] (erTe M gn g am) := orE_is (ite_is (by decide)) (orE_is (ite_is (by decide)) (ite_is (by decide)))
theorem is_isClosed {gn : Nat} {g mo : Int32} : isE [eX, eA] (orE (erC gn g) (erMo mo)) := orE_is (ite_is (by decide)) (ite_is (by decide))
theorem is_touches {cn gn : Nat} {pn : Nat → Nat} {a q g : Int32} : isE [eX] (orE (erPc cn pn a q) (erC gn g)) := orE_is (isPc (by decide)) (ite_is (by decide))
theorem is_lifted {cn : Nat} {pn : Nat → Nat} {a q : Int32} : isE [eX] (erPc cn pn a q) := isPc (by decide)
theorem is_cost {cn : Nat} {pn : Nat → Nat} {a q mo : Int32} : isE [eX, eA] (orE (erPc cn pn a q) (erMo mo)) := orE_is (isPc (by decide)) (ite_is (by decide))
theorem is_repair {M : Nat → Nat → Int32} {cn : Nat} {pn : Nat → Nat} {a q mo : Int32} : isE [eX, eA, eI] (erRe M cn pn a q mo) := orE_is (isPc (by decide)) (orE_is (ite_is (by decide)) (ite_is (by decide)))
theorem is_paid {gn : Nat} {g : Int32} : isE [eX] (erC gn g) := ite_is (by decide)
theorem g_pass1 {s : State} {args : Array Value} {own E n1 : String} {pc : Nat} {t1 : ExceptionTableEntry} (l1 : (Cond.classLink own t1.catchType n1).before args s = true) (c1 : va_Nc E n1 s) (z1 : t1.catchType ≠ 0) : ∀ z ∈ [t1], covers z pc = false ∨ (z.catchType ≠ 0 ∧ ∃ nm : String, (Cond.classLink own z.catchType nm).before args s = true ∧ va_Nc E nm s) := fun z hz => by
  cases List.mem_singleton.mp hz
  exact Or.inr ⟨z1, n1, l1, c1⟩
theorem g_pass2 {s : State} {args : Array Value} {own E n1 n2 : String} {pc : Nat} {t1 t2 : ExceptionTableEntry} (l1 : (Cond.classLink own t1.catchType n1).before args s = true) (c1 : va_Nc E n1 s) (z1 : t1.catchType ≠ 0) (l2 : (Cond.classLink own t2.catchType n2).before args s = true) (c2 : va_Nc E n2 s) (z2 : t2.catchType ≠ 0) : ∀ z ∈ [t1, t2], covers z pc = false ∨ (z.catchType ≠ 0 ∧ ∃ nm : String, (Cond.classLink own z.catchType nm).before args s = true ∧ va_Nc E nm s) := fun z hz => by
  rcases List.mem_cons.mp hz with rfl | hz
  · exact Or.inr ⟨z1, n1, l1, c1⟩
  · cases List.mem_singleton.mp hz
    exact Or.inr ⟨z2, n2, l2, c2⟩
set_option maxHeartbeats 4000000 in
set_option maxRecDepth 100000 in
theorem c_L_draft (l : Launch) (hlf : l.stackTraces = false) (x : Cx) (M : Nat → Nat → Int32) (cn gn dn : Nat) (pn : Nat → Nat) (px py : Int32) (hO : OkO M cn gn dn pn) : Met l yL_draft wsL_draft ({ frames := 8, cells := 2, slots := 12, locals := 133 }) (gP x M [.ref (xa x 0), .int px, .int py, .ref (xa x 56)]) (gQ x (some (.int (lcd [eA, eI] (erDr M dn px py)))) (if erDr M dn px py = none then up2 (dfM M dn px py) 56 0 (nI (dn + 1)) else M)) 2 12 (gF x) := by
  refine g_metW (cc := cL_draft) (maxL := 5) (ret := some .int) (hh := [(0, 10, 13, 13), (0, 10, 17, 15)]) (by decide) rfl (Nat.le_of_ble_eq_true rfl) ?_
  intro p e s m below meth c hx hb hr hml hts hown hlk ht hS hZ hP hV ls hl
  have hl : lv_has ls 5 [(0, .ref (xa x 0)), (1, .int px), (2, .int py), (3, .ref (xa x 56))] := hl
  have hw_k13 := hts (.classLink RL 13 eA) (by decide +kernel)
  have hw_k15 := hts (.classLink RL 15 eI) (by decide +kernel)
  refine lv_aload_n hx hb dL_draft_0 rfl (lv_at hl 3 rfl) ?_
  refine lv_iconst (v := 0) hx hb dL_draft_1 (by decide) ?_
  refine lv_aload_n hx hb dL_draft_2 rfl (lv_at hl 0 rfl) ?_
  refine lv_iload_n hx hb dL_draft_3 rfl (lv_at hl 1 rfl) ?_
  refine lv_iload_n hx hb dL_draft_4 rfl (lv_at hl 2 rfl) ?_
  refine g_xcall1 (vx_runV (As := [.int px, .int py]) (rest := [.int 0, .ref (xa x 56)]) ⟨hx, hb, hml, hown, hts⟩ (c_X2_draft l hlf x M cn gn dn pn px py hO) (cwV 2 hts gL_draft_X2_draft rfl rfl rfl (by decide +kernel) ⟨Nat.le_of_ble_eq_true rfl, Nat.le_of_ble_eq_true rfl⟩) (g_preV hS hZ hP hV [.int px, .int py] (id := 0) (by decide) rfl rfl) rfl rfl hl.1 rfl (lv_room (Nat.le_of_ble_eq_true rfl)) dL_draft_5 ⟨Nat.le_of_ble_eq_true rfl, Nat.le_of_ble_eq_true rfl⟩) hV (fun E ce xq H locs hE hP hV h1 h2 h3 => ?_) (fun H locs x_1 hP hV => ?_)
  · have hm := is_draft E hE
    simp only [List.mem_cons, List.not_mem_nil, or_false] at hm
    rcases hm with rfl | rfl
    · -- eA
      refine vx_catch (own := RL) (name := eA) (E := eA) hown [] ⟨0, 10, 13, 13⟩ [⟨0, 10, 17, 15⟩] ht (fun z hz => nomatch hz) (by decide) (by decide) hw_k13 (va_Nw.use rfl (hS.2.2.2.2.2.2.1 eA (by decide) _ List.mem_cons_self)) h1 h2 h3 ?_
      refine lv_astore (lv' := [(4, .ref xq), (0, .ref (xa x 0)), (1, .int px), (2, .int py), (3, .ref (xa x 56))]) hx hb dL_draft_13 hl (by decide) rfl (fun ls hl => ?_)
      refine lv_iconst (v := 1) hx hb dL_draft_15 (by decide) ?_
      exact g_iret hx hb hr hlk hS hZ hP hV (Nat.le_of_ble_eq_true rfl) (Nat.le_of_ble_eq_true rfl) dL_draft_16 (by rw [hE]; rfl) (by exact (if_neg (by rw [hE]; exact fun z => nomatch z)).symm)
    · -- eI
      refine vx_catch (own := RL) (name := eI) (E := eI) hown [⟨0, 10, 13, 13⟩] ⟨0, 10, 17, 15⟩ [] ht (g_pass1 hw_k13 (hS.2.2.2.2.2.2.2 (eI, eA) (by decide)) (by decide)) (by decide) (by decide) hw_k15 (va_Nw.use rfl (hS.2.2.2.2.2.2.1 eI (by decide) _ List.mem_cons_self)) h1 h2 h3 ?_
      refine lv_astore (lv' := [(4, .ref xq), (0, .ref (xa x 0)), (1, .int px), (2, .int py), (3, .ref (xa x 56))]) hx hb dL_draft_17 hl (by decide) rfl (fun ls hl => ?_)
      refine lv_iconst (v := 2) hx hb dL_draft_19 (by decide) ?_
      exact g_iret hx hb hr hlk hS hZ hP hV (Nat.le_of_ble_eq_true rfl) (Nat.le_of_ble_eq_true rfl) dL_draft_20 (by rw [hE]; rfl) (by exact (if_neg (by rw [hE]; exact fun z => nomatch z)).symm)
  refine lv_i2l (v := (nI (dn + 1)).toInt64) hx hb dL_draft_8 rfl ?_
  refine g_last (v := nI (dn + 1)) hx hb hS hP hV (by first | rfl | decide) dL_draft_9 (fun H locs hP hV => ?_)
  refine lv_goto (tgt := 21) hx hb dL_draft_10 (by decide) ?_
  refine lv_iconst (v := 0) hx hb dL_draft_21 (by decide) ?_
  exact g_iret hx hb hr hlk hS hZ hP hV (Nat.le_of_ble_eq_true rfl) (Nat.le_of_ble_eq_true rfl) dL_draft_22 (by rw [x_1]; rfl) (by exact (if_pos x_1).symm)
set_option maxHeartbeats 4000000 in
set_option maxRecDepth 100000 in
theorem c_L_lay (l : Launch) (hlf : l.stackTraces = false) (x : Cx) (M : Nat → Nat → Int32) (cn gn dn : Nat) (pn : Nat → Nat)  (hO : OkO M cn gn dn pn) : Met l yL_lay wsL_lay ({ frames := 7, cells := 1, slots := 6, locals := 162 }) (gP x M [.ref (xa x 0), .ref (xa x 56)]) (gQ x (some (.int (lcd [eI] (erLay cn dn)))) (if erLay cn dn = none then up2 (layR (layM M cn) (pnL pn cn dn) cn cn) 56 0 (nI cn) else M)) 1 6 (gF x) := by
  refine g_metW (cc := cL_lay) (maxL := 3) (ret := some .int) (hh := [(0, 8, 11, 15)]) (by decide) rfl (Nat.le_of_ble_eq_true rfl) ?_
  intro p e s m below meth c hx hb hr hml hts hown hlk ht hS hZ hP hV ls hl
  have hl : lv_has ls 3 [(0, .ref (xa x 0)), (1, .ref (xa x 56))] := hl
  have hw_k15 := hts (.classLink RL 15 eI) (by decide +kernel)
  refine lv_aload_n hx hb dL_lay_0 rfl (lv_at hl 1 rfl) ?_
  refine lv_iconst (v := 0) hx hb dL_lay_1 (by decide) ?_
  refine lv_aload_n hx hb dL_lay_2 rfl (lv_at hl 0 rfl) ?_
  refine g_xcall1 (vx_runV (As := []) (rest := [.int 0, .ref (xa x 56)]) ⟨hx, hb, hml, hown, hts⟩ (c_X2_lay l hlf x M cn gn dn pn  hO) (cwV 0 hts gL_lay_X2_lay rfl rfl rfl (by decide +kernel) ⟨Nat.le_of_ble_eq_true rfl, Nat.le_of_ble_eq_true rfl⟩) (g_preV hS hZ hP hV [] (id := 0) (by decide) rfl rfl) rfl rfl hl.1 rfl (lv_room (Nat.le_of_ble_eq_true rfl)) dL_lay_3 ⟨Nat.le_of_ble_eq_true rfl, Nat.le_of_ble_eq_true rfl⟩) hV (fun E ce xq H locs hE hP hV h1 h2 h3 => ?_) (fun H locs x_1 hP hV => ?_)
  · have hm := is_lay E hE
    simp only [List.mem_cons, List.not_mem_nil, or_false] at hm
    rcases hm with rfl
    · -- eI
      refine vx_catch (own := RL) (name := eI) (E := eI) hown [] ⟨0, 8, 11, 15⟩ [] ht (fun z hz => nomatch hz) (by decide) (by decide) hw_k15 (va_Nw.use rfl (hS.2.2.2.2.2.2.1 eI (by decide) _ List.mem_cons_self)) h1 h2 h3 ?_
      refine lv_astore_n (lv' := [(2, .ref xq), (0, .ref (xa x 0)), (1, .ref (xa x 56))]) hx hb dL_lay_11 rfl hl (by decide) rfl (fun ls hl => ?_)
      refine lv_iconst (v := 1) hx hb dL_lay_12 (by decide) ?_
      exact g_iret hx hb hr hlk hS hZ hP hV (Nat.le_of_ble_eq_true rfl) (Nat.le_of_ble_eq_true rfl) dL_lay_13 (by rw [hE]; rfl) (by exact (if_neg (by rw [hE]; exact fun z => nomatch z)).symm)
  refine lv_i2l (v := (nI cn).toInt64) hx hb dL_lay_6 rfl ?_
  refine g_last (v := nI cn) hx hb hS hP hV (by first | rfl | decide) dL_lay_7 (fun H locs hP hV => ?_)
  refine lv_goto (tgt := 14) hx hb dL_lay_8 (by decide) ?_
  refine lv_iconst (v := 0) hx hb dL_lay_14 (by decide) ?_
  exact g_iret hx hb hr hlk hS hZ hP hV (Nat.le_of_ble_eq_true rfl) (Nat.le_of_ble_eq_true rfl) dL_lay_15 (by rw [x_1]; rfl) (by exact (if_pos x_1).symm)
set_option maxHeartbeats 4000000 in
set_option maxRecDepth 100000 in
theorem c_L_move (l : Launch) (hlf : l.stackTraces = false) (x : Cx) (M : Nat → Nat → Int32) (cn gn dn : Nat) (pn : Nat → Nat) (a q px py : Int32) (hO : OkO M cn gn dn pn) : Met l yL_move wsL_move ({ frames := 9, cells := 4, slots := 24, locals := 167 }) (gP x M [.ref (xa x 0), .int a, .int q, .int px, .int py, .ref (xa x 56)]) (gQ x (some (.int (lcd [eX, eA, eI] (erMv M cn pn a q px py)))) (if erMv M cn pn a q px py = none then up2 (mvM (mv0 M (tn a) (tn q) px py) pn (tn a) cn) 56 0 (mvC (mv0 M (tn a) (tn q) px py) pn (tn a) cn) else M)) 4 24 (gF x) := by
  refine g_metW (cc := cL_move) (maxL := 7) (ret := some .int) (hh := [(0, 14, 17, 25), (0, 14, 21, 13), (0, 14, 25, 15)]) (by decide) rfl (Nat.le_of_ble_eq_true rfl) ?_
  intro p e s m below meth c hx hb hr hml hts hown hlk ht hS hZ hP hV ls hl
  have hl : lv_has ls 7 [(0, .ref (xa x 0)), (1, .int a), (2, .int q), (3, .int px), (4, .int py), (5, .ref (xa x 56))] := hl
  have hw_k25 := hts (.classLink RL 25 eX) (by decide +kernel)
  have hw_k13 := hts (.classLink RL 13 eA) (by decide +kernel)
  have hw_k15 := hts (.classLink RL 15 eI) (by decide +kernel)
  refine lv_aload hx hb dL_move_0 (lv_at hl 5 rfl) ?_
  refine lv_iconst (v := 0) hx hb dL_move_2 (by decide) ?_
  refine lv_aload_n hx hb dL_move_3 rfl (lv_at hl 0 rfl) ?_
  refine lv_iload_n hx hb dL_move_4 rfl (lv_at hl 1 rfl) ?_
  refine lv_iload_n hx hb dL_move_5 rfl (lv_at hl 2 rfl) ?_
  refine lv_iload_n hx hb dL_move_6 rfl (lv_at hl 3 rfl) ?_
  refine lv_iload hx hb dL_move_7 (lv_at hl 4 rfl) ?_
  refine g_xcall1 (vx_runV (As := [.int a, .int q, .int px, .int py]) (rest := [.int 0, .ref (xa x 56)]) ⟨hx, hb, hml, hown, hts⟩ (c_X2_move l hlf x M cn gn dn pn a q px py hO) (cwV 4 hts gL_move_X2_move rfl rfl rfl (by decide +kernel) ⟨Nat.le_of_ble_eq_true rfl, Nat.le_of_ble_eq_true rfl⟩) (g_preV hS hZ hP hV [.int a, .int q, .int px, .int py] (id := 0) (by decide) rfl rfl) rfl rfl hl.1 rfl (lv_room (Nat.le_of_ble_eq_true rfl)) dL_move_9 ⟨Nat.le_of_ble_eq_true rfl, Nat.le_of_ble_eq_true rfl⟩) hV (fun E ce xq H locs hE hP hV h1 h2 h3 => ?_) (fun H locs x_1 hP hV => ?_)
  · have hm := is_move E hE
    simp only [List.mem_cons, List.not_mem_nil, or_false] at hm
    rcases hm with rfl | rfl | rfl
    · -- eX
      refine vx_catch (own := RL) (name := eX) (E := eX) hown [] ⟨0, 14, 17, 25⟩ [⟨0, 14, 21, 13⟩, ⟨0, 14, 25, 15⟩] ht (fun z hz => nomatch hz) (by decide) (by decide) hw_k25 (va_Nw.use rfl (hS.2.2.2.2.2.2.1 eX (by decide) _ List.mem_cons_self)) h1 h2 h3 ?_
      refine lv_astore (lv' := [(6, .ref xq), (0, .ref (xa x 0)), (1, .int a), (2, .int q), (3, .int px), (4, .int py), (5, .ref (xa x 56))]) hx hb dL_move_17 hl (by decide) rfl (fun ls hl => ?_)
      refine lv_iconst (v := 1) hx hb dL_move_19 (by decide) ?_
      exact g_iret hx hb hr hlk hS hZ hP hV (Nat.le_of_ble_eq_true rfl) (Nat.le_of_ble_eq_true rfl) dL_move_20 (by rw [hE]; rfl) (by exact (if_neg (by rw [hE]; exact fun z => nomatch z)).symm)
    · -- eA
      refine vx_catch (own := RL) (name := eA) (E := eA) hown [⟨0, 14, 17, 25⟩] ⟨0, 14, 21, 13⟩ [⟨0, 14, 25, 15⟩] ht (g_pass1 hw_k25 (hS.2.2.2.2.2.2.2 (eA, eX) (by decide)) (by decide)) (by decide) (by decide) hw_k13 (va_Nw.use rfl (hS.2.2.2.2.2.2.1 eA (by decide) _ List.mem_cons_self)) h1 h2 h3 ?_
      refine lv_astore (lv' := [(6, .ref xq), (0, .ref (xa x 0)), (1, .int a), (2, .int q), (3, .int px), (4, .int py), (5, .ref (xa x 56))]) hx hb dL_move_21 hl (by decide) rfl (fun ls hl => ?_)
      refine lv_iconst (v := 2) hx hb dL_move_23 (by decide) ?_
      exact g_iret hx hb hr hlk hS hZ hP hV (Nat.le_of_ble_eq_true rfl) (Nat.le_of_ble_eq_true rfl) dL_move_24 (by rw [hE]; rfl) (by exact (if_neg (by rw [hE]; exact fun z => nomatch z)).symm)
    · -- eI
      refine vx_catch (own := RL) (name := eI) (E := eI) hown [⟨0, 14, 17, 25⟩, ⟨0, 14, 21, 13⟩] ⟨0, 14, 25, 15⟩ [] ht (g_pass2 hw_k25 (hS.2.2.2.2.2.2.2 (eI, eX) (by decide)) (by decide) hw_k13 (hS.2.2.2.2.2.2.2 (eI, eA) (by decide)) (by decide)) (by decide) (by decide) hw_k15 (va_Nw.use rfl (hS.2.2.2.2.2.2.1 eI (by decide) _ List.mem_cons_self)) h1 h2 h3 ?_
      refine lv_astore (lv' := [(6, .ref xq), (0, .ref (xa x 0)), (1, .int a), (2, .int q), (3, .int px), (4, .int py), (5, .ref (xa x 56))]) hx hb dL_move_25 hl (by decide) rfl (fun ls hl => ?_)
      refine lv_iconst (v := 3) hx hb dL_move_27 (by decide) ?_
      exact g_iret hx hb hr hlk hS hZ hP hV (Nat.le_of_ble_eq_true rfl) (Nat.le_of_ble_eq_true rfl) dL_move_28 (by rw [hE]; rfl) (by exact (if_neg (by rw [hE]; exact fun z => nomatch z)).symm)
  refine lv_i2l (v := (mvC (mv0 M (tn a) (tn q) px py) pn (tn a) cn).toInt64) hx hb dL_move_12 rfl ?_
  refine g_last (v := mvC (mv0 M (tn a) (tn q) px py) pn (tn a) cn) hx hb hS hP hV (by first | rfl | decide) dL_move_13 (fun H locs hP hV => ?_)
  refine lv_goto (tgt := 29) hx hb dL_move_14 (by decide) ?_
  refine lv_iconst (v := 0) hx hb dL_move_29 (by decide) ?_
  exact g_iret hx hb hr hlk hS hZ hP hV (Nat.le_of_ble_eq_true rfl) (Nat.le_of_ble_eq_true rfl) dL_move_30 (by rw [x_1]; rfl) (by exact (if_pos x_1).symm)
set_option maxHeartbeats 4000000 in
set_option maxRecDepth 100000 in
theorem c_L_point (l : Launch) (hlf : l.stackTraces = false) (x : Cx) (M : Nat → Nat → Int32) (cn gn dn : Nat) (pn : Nat → Nat) (a q : Int32) (hO : OkO M cn gn dn pn) : Met l yL_point wsL_point ({ frames := 9, cells := 2, slots := 12, locals := 155 }) (gP x M [.ref (xa x 0), .int a, .int q, .ref (xa x 56)]) (gQ x (some (.int (lcd [eX] (erPt cn pn a q)))) (if erPt cn pn a q = none then up2 M 56 0 (100 * rX M (tn a) (tn q) + rY M (tn a) (tn q)) else M)) 2 12 (gF x) := by
  refine g_metW (cc := cL_point) (maxL := 5) (ret := some .int) (hh := [(0, 10, 13, 25)]) (by decide) rfl (Nat.le_of_ble_eq_true rfl) ?_
  intro p e s m below meth c hx hb hr hml hts hown hlk ht hS hZ hP hV ls hl
  have hl : lv_has ls 5 [(0, .ref (xa x 0)), (1, .int a), (2, .int q), (3, .ref (xa x 56))] := hl
  have hw_k25 := hts (.classLink RL 25 eX) (by decide +kernel)
  refine lv_aload_n hx hb dL_point_0 rfl (lv_at hl 3 rfl) ?_
  refine lv_iconst (v := 0) hx hb dL_point_1 (by decide) ?_
  refine lv_aload_n hx hb dL_point_2 rfl (lv_at hl 0 rfl) ?_
  refine lv_iload_n hx hb dL_point_3 rfl (lv_at hl 1 rfl) ?_
  refine lv_iload_n hx hb dL_point_4 rfl (lv_at hl 2 rfl) ?_
  refine g_xcall1 (vx_runV (As := [.int a, .int q]) (rest := [.int 0, .ref (xa x 56)]) ⟨hx, hb, hml, hown, hts⟩ (c_X2_point l hlf x M cn gn dn pn a q hO) (cwV 2 hts gL_point_X2_point rfl rfl rfl (by decide +kernel) ⟨Nat.le_of_ble_eq_true rfl, Nat.le_of_ble_eq_true rfl⟩) (g_preV hS hZ hP hV [.int a, .int q] (id := 0) (by decide) rfl rfl) rfl rfl hl.1 rfl (lv_room (Nat.le_of_ble_eq_true rfl)) dL_point_5 ⟨Nat.le_of_ble_eq_true rfl, Nat.le_of_ble_eq_true rfl⟩) hV (fun E ce xq H locs hE hP hV h1 h2 h3 => ?_) (fun H locs x_1 hP hV => ?_)
  · have hm := is_point E hE
    simp only [List.mem_cons, List.not_mem_nil, or_false] at hm
    rcases hm with rfl
    · -- eX
      refine vx_catch (own := RL) (name := eX) (E := eX) hown [] ⟨0, 10, 13, 25⟩ [] ht (fun z hz => nomatch hz) (by decide) (by decide) hw_k25 (va_Nw.use rfl (hS.2.2.2.2.2.2.1 eX (by decide) _ List.mem_cons_self)) h1 h2 h3 ?_
      refine lv_astore (lv' := [(4, .ref xq), (0, .ref (xa x 0)), (1, .int a), (2, .int q), (3, .ref (xa x 56))]) hx hb dL_point_13 hl (by decide) rfl (fun ls hl => ?_)
      refine lv_iconst (v := 1) hx hb dL_point_15 (by decide) ?_
      exact g_iret hx hb hr hlk hS hZ hP hV (Nat.le_of_ble_eq_true rfl) (Nat.le_of_ble_eq_true rfl) dL_point_16 (by rw [hE]; rfl) (by exact (if_neg (by rw [hE]; exact fun z => nomatch z)).symm)
  refine lv_i2l (v := (100 * rX M (tn a) (tn q) + rY M (tn a) (tn q)).toInt64) hx hb dL_point_8 rfl ?_
  refine g_last (v := 100 * rX M (tn a) (tn q) + rY M (tn a) (tn q)) hx hb hS hP hV (by first | rfl | decide) dL_point_9 (fun H locs hP hV => ?_)
  refine lv_goto (tgt := 17) hx hb dL_point_10 (by decide) ?_
  refine lv_iconst (v := 0) hx hb dL_point_17 (by decide) ?_
  exact g_iret hx hb hr hlk hS hZ hP hV (Nat.le_of_ble_eq_true rfl) (Nat.le_of_ble_eq_true rfl) dL_point_18 (by rw [x_1]; rfl) (by exact (if_pos x_1).symm)
set_option maxHeartbeats 4000000 in
set_option maxRecDepth 100000 in
theorem c_L_crossings (l : Launch) (hlf : l.stackTraces = false) (x : Cx) (M : Nat → Nat → Int32) (cn gn dn : Nat) (pn : Nat → Nat) (a b : Int32) (hO : OkO M cn gn dn pn) : Met l yL_crossings wsL_crossings ({ frames := 9, cells := 2, slots := 12, locals := 155 }) (gP x M [.ref (xa x 0), .int a, .int b, .ref (xa x 56)]) (gQ x (some (.int (lcd [eX] (erCC cn a b)))) (if erCC cn a b = none then up2 M 56 0 (M 2 (pr (tn a) (tn b))) else M)) 2 12 (gF x) := by
  refine g_metW (cc := cL_crossings) (maxL := 5) (ret := some .int) (hh := [(0, 10, 13, 25)]) (by decide) rfl (Nat.le_of_ble_eq_true rfl) ?_
  intro p e s m below meth c hx hb hr hml hts hown hlk ht hS hZ hP hV ls hl
  have hl : lv_has ls 5 [(0, .ref (xa x 0)), (1, .int a), (2, .int b), (3, .ref (xa x 56))] := hl
  have hw_k25 := hts (.classLink RL 25 eX) (by decide +kernel)
  refine lv_aload_n hx hb dL_crossings_0 rfl (lv_at hl 3 rfl) ?_
  refine lv_iconst (v := 0) hx hb dL_crossings_1 (by decide) ?_
  refine lv_aload_n hx hb dL_crossings_2 rfl (lv_at hl 0 rfl) ?_
  refine lv_iload_n hx hb dL_crossings_3 rfl (lv_at hl 1 rfl) ?_
  refine lv_iload_n hx hb dL_crossings_4 rfl (lv_at hl 2 rfl) ?_
  refine g_xcall1 (vx_runV (As := [.int a, .int b]) (rest := [.int 0, .ref (xa x 56)]) ⟨hx, hb, hml, hown, hts⟩ (c_X2_crossings l hlf x M cn gn dn pn a b hO) (cwV 2 hts gL_crossings_X2_crossings rfl rfl rfl (by decide +kernel) ⟨Nat.le_of_ble_eq_true rfl, Nat.le_of_ble_eq_true rfl⟩) (g_preV hS hZ hP hV [.int a, .int b] (id := 0) (by decide) rfl rfl) rfl rfl hl.1 rfl (lv_room (Nat.le_of_ble_eq_true rfl)) dL_crossings_5 ⟨Nat.le_of_ble_eq_true rfl, Nat.le_of_ble_eq_true rfl⟩) hV (fun E ce xq H locs hE hP hV h1 h2 h3 => ?_) (fun H locs x_1 hP hV => ?_)
  · have hm := is_crossings E hE
    simp only [List.mem_cons, List.not_mem_nil, or_false] at hm
    rcases hm with rfl
    · -- eX
      refine vx_catch (own := RL) (name := eX) (E := eX) hown [] ⟨0, 10, 13, 25⟩ [] ht (fun z hz => nomatch hz) (by decide) (by decide) hw_k25 (va_Nw.use rfl (hS.2.2.2.2.2.2.1 eX (by decide) _ List.mem_cons_self)) h1 h2 h3 ?_
      refine lv_astore (lv' := [(4, .ref xq), (0, .ref (xa x 0)), (1, .int a), (2, .int b), (3, .ref (xa x 56))]) hx hb dL_crossings_13 hl (by decide) rfl (fun ls hl => ?_)
      refine lv_iconst (v := 1) hx hb dL_crossings_15 (by decide) ?_
      exact g_iret hx hb hr hlk hS hZ hP hV (Nat.le_of_ble_eq_true rfl) (Nat.le_of_ble_eq_true rfl) dL_crossings_16 (by rw [hE]; rfl) (by exact (if_neg (by rw [hE]; exact fun z => nomatch z)).symm)
  refine lv_i2l (v := (M 2 (pr (tn a) (tn b))).toInt64) hx hb dL_crossings_8 rfl ?_
  refine g_last (v := M 2 (pr (tn a) (tn b))) hx hb hS hP hV (by first | rfl | decide) dL_crossings_9 (fun H locs hP hV => ?_)
  refine lv_goto (tgt := 17) hx hb dL_crossings_10 (by decide) ?_
  refine lv_iconst (v := 0) hx hb dL_crossings_17 (by decide) ?_
  exact g_iret hx hb hr hlk hS hZ hP hV (Nat.le_of_ble_eq_true rfl) (Nat.le_of_ble_eq_true rfl) dL_crossings_18 (by rw [x_1]; rfl) (by exact (if_pos x_1).symm)
set_option maxHeartbeats 4000000 in
set_option maxRecDepth 100000 in
theorem c_L_crossingsAnew (l : Launch) (hlf : l.stackTraces = false) (x : Cx) (M : Nat → Nat → Int32) (cn gn dn : Nat) (pn : Nat → Nat) (a b : Int32) (hO : OkO M cn gn dn pn) : Met l yL_crossingsAnew wsL_crossingsAnew ({ frames := 9, cells := 2, slots := 12, locals := 155 }) (gP x M [.ref (xa x 0), .int a, .int b, .ref (xa x 56)]) (gQ x (some (.int (lcd [eX] (erCC cn a b)))) (if erCC cn a b = none then up2 M 56 0 (if tn a = tn b then 0 else nI (cnX false M pn (tn a) (tn b))) else M)) 2 12 (gF x) := by
  refine g_metW (cc := cL_crossingsAnew) (maxL := 5) (ret := some .int) (hh := [(0, 10, 13, 25)]) (by decide) rfl (Nat.le_of_ble_eq_true rfl) ?_
  intro p e s m below meth c hx hb hr hml hts hown hlk ht hS hZ hP hV ls hl
  have hl : lv_has ls 5 [(0, .ref (xa x 0)), (1, .int a), (2, .int b), (3, .ref (xa x 56))] := hl
  have hw_k25 := hts (.classLink RL 25 eX) (by decide +kernel)
  refine lv_aload_n hx hb dL_crossingsAnew_0 rfl (lv_at hl 3 rfl) ?_
  refine lv_iconst (v := 0) hx hb dL_crossingsAnew_1 (by decide) ?_
  refine lv_aload_n hx hb dL_crossingsAnew_2 rfl (lv_at hl 0 rfl) ?_
  refine lv_iload_n hx hb dL_crossingsAnew_3 rfl (lv_at hl 1 rfl) ?_
  refine lv_iload_n hx hb dL_crossingsAnew_4 rfl (lv_at hl 2 rfl) ?_
  refine g_xcall1 (vx_runV (As := [.int a, .int b]) (rest := [.int 0, .ref (xa x 56)]) ⟨hx, hb, hml, hown, hts⟩ (c_X2_crossingsAnew l hlf x M cn gn dn pn a b hO) (cwV 2 hts gL_crossingsAnew_X2_crossingsAnew rfl rfl rfl (by decide +kernel) ⟨Nat.le_of_ble_eq_true rfl, Nat.le_of_ble_eq_true rfl⟩) (g_preV hS hZ hP hV [.int a, .int b] (id := 0) (by decide) rfl rfl) rfl rfl hl.1 rfl (lv_room (Nat.le_of_ble_eq_true rfl)) dL_crossingsAnew_5 ⟨Nat.le_of_ble_eq_true rfl, Nat.le_of_ble_eq_true rfl⟩) hV (fun E ce xq H locs hE hP hV h1 h2 h3 => ?_) (fun H locs x_1 hP hV => ?_)
  · have hm := is_crossingsAnew E hE
    simp only [List.mem_cons, List.not_mem_nil, or_false] at hm
    rcases hm with rfl
    · -- eX
      refine vx_catch (own := RL) (name := eX) (E := eX) hown [] ⟨0, 10, 13, 25⟩ [] ht (fun z hz => nomatch hz) (by decide) (by decide) hw_k25 (va_Nw.use rfl (hS.2.2.2.2.2.2.1 eX (by decide) _ List.mem_cons_self)) h1 h2 h3 ?_
      refine lv_astore (lv' := [(4, .ref xq), (0, .ref (xa x 0)), (1, .int a), (2, .int b), (3, .ref (xa x 56))]) hx hb dL_crossingsAnew_13 hl (by decide) rfl (fun ls hl => ?_)
      refine lv_iconst (v := 1) hx hb dL_crossingsAnew_15 (by decide) ?_
      exact g_iret hx hb hr hlk hS hZ hP hV (Nat.le_of_ble_eq_true rfl) (Nat.le_of_ble_eq_true rfl) dL_crossingsAnew_16 (by rw [hE]; rfl) (by exact (if_neg (by rw [hE]; exact fun z => nomatch z)).symm)
  refine lv_i2l (v := (if tn a = tn b then 0 else nI (cnX false M pn (tn a) (tn b))).toInt64) hx hb dL_crossingsAnew_8 rfl ?_
  refine g_last (v := if tn a = tn b then 0 else nI (cnX false M pn (tn a) (tn b))) hx hb hS hP hV (by first | rfl | decide) dL_crossingsAnew_9 (fun H locs hP hV => ?_)
  refine lv_goto (tgt := 17) hx hb dL_crossingsAnew_10 (by decide) ?_
  refine lv_iconst (v := 0) hx hb dL_crossingsAnew_17 (by decide) ?_
  exact g_iret hx hb hr hlk hS hZ hP hV (Nat.le_of_ble_eq_true rfl) (Nat.le_of_ble_eq_true rfl) dL_crossingsAnew_18 (by rw [x_1]; rfl) (by exact (if_pos x_1).symm)
set_option maxHeartbeats 4000000 in
set_option maxRecDepth 100000 in
theorem c_L_agree (l : Launch) (hlf : l.stackTraces = false) (x : Cx) (M : Nat → Nat → Int32) (cn gn dn : Nat) (pn : Nat → Nat) (a b : Int32) (hO : OkO M cn gn dn pn) : Met l yL_agree wsL_agree ({ frames := 9, cells := 3, slots := 18, locals := 156 }) (gP x M [.ref (xa x 0), .int a, .int b, .ref (xa x 56)]) (gQ x (some (.int (lcd [eX, eI] (erAg M cn a b)))) (if erAg M cn a b = none then up2 (up2 M 4 (pr (tn a) (tn b)) 1) 56 0 (nI (bpO (up2 M 4 (pr (tn a) (tn b)) 1) cn cn)) else M)) 3 18 (gF x) := by
  refine g_metW (cc := cL_agree) (maxL := 5) (ret := some .int) (hh := [(0, 10, 13, 25), (0, 10, 17, 15)]) (by decide) rfl (Nat.le_of_ble_eq_true rfl) ?_
  intro p e s m below meth c hx hb hr hml hts hown hlk ht hS hZ hP hV ls hl
  have hl : lv_has ls 5 [(0, .ref (xa x 0)), (1, .int a), (2, .int b), (3, .ref (xa x 56))] := hl
  have hw_k25 := hts (.classLink RL 25 eX) (by decide +kernel)
  have hw_k15 := hts (.classLink RL 15 eI) (by decide +kernel)
  refine lv_aload_n hx hb dL_agree_0 rfl (lv_at hl 3 rfl) ?_
  refine lv_iconst (v := 0) hx hb dL_agree_1 (by decide) ?_
  refine lv_aload_n hx hb dL_agree_2 rfl (lv_at hl 0 rfl) ?_
  refine lv_iload_n hx hb dL_agree_3 rfl (lv_at hl 1 rfl) ?_
  refine lv_iload_n hx hb dL_agree_4 rfl (lv_at hl 2 rfl) ?_
  refine g_xcall1 (vx_runV (As := [.int a, .int b]) (rest := [.int 0, .ref (xa x 56)]) ⟨hx, hb, hml, hown, hts⟩ (c_X2_agree l hlf x M cn gn dn pn a b hO) (cwV 2 hts gL_agree_X2_agree rfl rfl rfl (by decide +kernel) ⟨Nat.le_of_ble_eq_true rfl, Nat.le_of_ble_eq_true rfl⟩) (g_preV hS hZ hP hV [.int a, .int b] (id := 0) (by decide) rfl rfl) rfl rfl hl.1 rfl (lv_room (Nat.le_of_ble_eq_true rfl)) dL_agree_5 ⟨Nat.le_of_ble_eq_true rfl, Nat.le_of_ble_eq_true rfl⟩) hV (fun E ce xq H locs hE hP hV h1 h2 h3 => ?_) (fun H locs x_1 hP hV => ?_)
  · have hm := is_agree E hE
    simp only [List.mem_cons, List.not_mem_nil, or_false] at hm
    rcases hm with rfl | rfl
    · -- eX
      refine vx_catch (own := RL) (name := eX) (E := eX) hown [] ⟨0, 10, 13, 25⟩ [⟨0, 10, 17, 15⟩] ht (fun z hz => nomatch hz) (by decide) (by decide) hw_k25 (va_Nw.use rfl (hS.2.2.2.2.2.2.1 eX (by decide) _ List.mem_cons_self)) h1 h2 h3 ?_
      refine lv_astore (lv' := [(4, .ref xq), (0, .ref (xa x 0)), (1, .int a), (2, .int b), (3, .ref (xa x 56))]) hx hb dL_agree_13 hl (by decide) rfl (fun ls hl => ?_)
      refine lv_iconst (v := 1) hx hb dL_agree_15 (by decide) ?_
      exact g_iret hx hb hr hlk hS hZ hP hV (Nat.le_of_ble_eq_true rfl) (Nat.le_of_ble_eq_true rfl) dL_agree_16 (by rw [hE]; rfl) (by exact (if_neg (by rw [hE]; exact fun z => nomatch z)).symm)
    · -- eI
      refine vx_catch (own := RL) (name := eI) (E := eI) hown [⟨0, 10, 13, 25⟩] ⟨0, 10, 17, 15⟩ [] ht (g_pass1 hw_k25 (hS.2.2.2.2.2.2.2 (eI, eX) (by decide)) (by decide)) (by decide) (by decide) hw_k15 (va_Nw.use rfl (hS.2.2.2.2.2.2.1 eI (by decide) _ List.mem_cons_self)) h1 h2 h3 ?_
      refine lv_astore (lv' := [(4, .ref xq), (0, .ref (xa x 0)), (1, .int a), (2, .int b), (3, .ref (xa x 56))]) hx hb dL_agree_17 hl (by decide) rfl (fun ls hl => ?_)
      refine lv_iconst (v := 2) hx hb dL_agree_19 (by decide) ?_
      exact g_iret hx hb hr hlk hS hZ hP hV (Nat.le_of_ble_eq_true rfl) (Nat.le_of_ble_eq_true rfl) dL_agree_20 (by rw [hE]; rfl) (by exact (if_neg (by rw [hE]; exact fun z => nomatch z)).symm)
  refine lv_i2l (v := (nI (bpO (up2 M 4 (pr (tn a) (tn b)) 1) cn cn)).toInt64) hx hb dL_agree_8 rfl ?_
  refine g_last (v := nI (bpO (up2 M 4 (pr (tn a) (tn b)) 1) cn cn)) hx hb hS hP hV (by first | rfl | decide) dL_agree_9 (fun H locs hP hV => ?_)
  refine lv_goto (tgt := 21) hx hb dL_agree_10 (by decide) ?_
  refine lv_iconst (v := 0) hx hb dL_agree_21 (by decide) ?_
  exact g_iret hx hb hr hlk hS hZ hP hV (Nat.le_of_ble_eq_true rfl) (Nat.le_of_ble_eq_true rfl) dL_agree_22 (by rw [x_1]; rfl) (by exact (if_pos x_1).symm)
set_option maxHeartbeats 4000000 in
set_option maxRecDepth 100000 in
theorem c_L_ground (l : Launch) (hlf : l.stackTraces = false) (x : Cx) (M : Nat → Nat → Int32) (cn gn dn : Nat) (pn : Nat → Nat) (le lo ri hh fr to : Int32) (hO : OkO M cn gn dn pn) : Met l yL_ground wsL_ground ({ frames := 8, cells := 5, slots := 30, locals := 138 }) (gP x M [.ref (xa x 0), .int le, .int lo, .int ri, .int hh, .int fr, .int to, .ref (xa x 56)]) (gQ x (some (.int (lcd [eA, eI] (erGr gn le lo ri hh fr to)))) (if erGr gn le lo ri hh fr to = none then up2 (grM M gn le lo ri hh fr to) 56 0 (nI gn) else M)) 5 30 (gF x) := by
  refine g_metW (cc := cL_ground) (maxL := 9) (ret := some .int) (hh := [(0, 18, 21, 13), (0, 18, 25, 15)]) (by decide) rfl (Nat.le_of_ble_eq_true rfl) ?_
  intro p e s m below meth c hx hb hr hml hts hown hlk ht hS hZ hP hV ls hl
  have hl : lv_has ls 9 [(0, .ref (xa x 0)), (1, .int le), (2, .int lo), (3, .int ri), (4, .int hh), (5, .int fr), (6, .int to), (7, .ref (xa x 56))] := hl
  have hw_k13 := hts (.classLink RL 13 eA) (by decide +kernel)
  have hw_k15 := hts (.classLink RL 15 eI) (by decide +kernel)
  refine lv_aload hx hb dL_ground_0 (lv_at hl 7 rfl) ?_
  refine lv_iconst (v := 0) hx hb dL_ground_2 (by decide) ?_
  refine lv_aload_n hx hb dL_ground_3 rfl (lv_at hl 0 rfl) ?_
  refine lv_iload_n hx hb dL_ground_4 rfl (lv_at hl 1 rfl) ?_
  refine lv_iload_n hx hb dL_ground_5 rfl (lv_at hl 2 rfl) ?_
  refine lv_iload_n hx hb dL_ground_6 rfl (lv_at hl 3 rfl) ?_
  refine lv_iload hx hb dL_ground_7 (lv_at hl 4 rfl) ?_
  refine lv_iload hx hb dL_ground_9 (lv_at hl 5 rfl) ?_
  refine lv_iload hx hb dL_ground_11 (lv_at hl 6 rfl) ?_
  refine g_xcall1 (vx_runV (As := [.int le, .int lo, .int ri, .int hh, .int fr, .int to]) (rest := [.int 0, .ref (xa x 56)]) ⟨hx, hb, hml, hown, hts⟩ (c_X2_ground l hlf x M cn gn dn pn le lo ri hh fr to hO) (cwV 6 hts gL_ground_X2_ground rfl rfl rfl (by decide +kernel) ⟨Nat.le_of_ble_eq_true rfl, Nat.le_of_ble_eq_true rfl⟩) (g_preV hS hZ hP hV [.int le, .int lo, .int ri, .int hh, .int fr, .int to] (id := 0) (by decide) rfl rfl) rfl rfl hl.1 rfl (lv_room (Nat.le_of_ble_eq_true rfl)) dL_ground_13 ⟨Nat.le_of_ble_eq_true rfl, Nat.le_of_ble_eq_true rfl⟩) hV (fun E ce xq H locs hE hP hV h1 h2 h3 => ?_) (fun H locs x_1 hP hV => ?_)
  · have hm := is_ground E hE
    simp only [List.mem_cons, List.not_mem_nil, or_false] at hm
    rcases hm with rfl | rfl
    · -- eA
      refine vx_catch (own := RL) (name := eA) (E := eA) hown [] ⟨0, 18, 21, 13⟩ [⟨0, 18, 25, 15⟩] ht (fun z hz => nomatch hz) (by decide) (by decide) hw_k13 (va_Nw.use rfl (hS.2.2.2.2.2.2.1 eA (by decide) _ List.mem_cons_self)) h1 h2 h3 ?_
      refine lv_astore (lv' := [(8, .ref xq), (0, .ref (xa x 0)), (1, .int le), (2, .int lo), (3, .int ri), (4, .int hh), (5, .int fr), (6, .int to), (7, .ref (xa x 56))]) hx hb dL_ground_21 hl (by decide) rfl (fun ls hl => ?_)
      refine lv_iconst (v := 1) hx hb dL_ground_23 (by decide) ?_
      exact g_iret hx hb hr hlk hS hZ hP hV (Nat.le_of_ble_eq_true rfl) (Nat.le_of_ble_eq_true rfl) dL_ground_24 (by rw [hE]; rfl) (by exact (if_neg (by rw [hE]; exact fun z => nomatch z)).symm)
    · -- eI
      refine vx_catch (own := RL) (name := eI) (E := eI) hown [⟨0, 18, 21, 13⟩] ⟨0, 18, 25, 15⟩ [] ht (g_pass1 hw_k13 (hS.2.2.2.2.2.2.2 (eI, eA) (by decide)) (by decide)) (by decide) (by decide) hw_k15 (va_Nw.use rfl (hS.2.2.2.2.2.2.1 eI (by decide) _ List.mem_cons_self)) h1 h2 h3 ?_
      refine lv_astore (lv' := [(8, .ref xq), (0, .ref (xa x 0)), (1, .int le), (2, .int lo), (3, .int ri), (4, .int hh), (5, .int fr), (6, .int to), (7, .ref (xa x 56))]) hx hb dL_ground_25 hl (by decide) rfl (fun ls hl => ?_)
      refine lv_iconst (v := 2) hx hb dL_ground_27 (by decide) ?_
      exact g_iret hx hb hr hlk hS hZ hP hV (Nat.le_of_ble_eq_true rfl) (Nat.le_of_ble_eq_true rfl) dL_ground_28 (by rw [hE]; rfl) (by exact (if_neg (by rw [hE]; exact fun z => nomatch z)).symm)
  refine lv_i2l (v := (nI gn).toInt64) hx hb dL_ground_16 rfl ?_
  refine g_last (v := nI gn) hx hb hS hP hV (by first | rfl | decide) dL_ground_17 (fun H locs hP hV => ?_)
  refine lv_goto (tgt := 29) hx hb dL_ground_18 (by decide) ?_
  refine lv_iconst (v := 0) hx hb dL_ground_29 (by decide) ?_
  exact g_iret hx hb hr hlk hS hZ hP hV (Nat.le_of_ble_eq_true rfl) (Nat.le_of_ble_eq_true rfl) dL_ground_30 (by rw [x_1]; rfl) (by exact (if_pos x_1).symm)
set_option maxHeartbeats 4000000 in
set_option maxRecDepth 100000 in
theorem c_L_tell (l : Launch) (hlf : l.stackTraces = false) (x : Cx) (M : Nat → Nat → Int32) (cn gn dn : Nat) (pn : Nat → Nat) (g am : Int32) (hO : OkO M cn gn dn pn) : Met l yL_tell wsL_tell ({ frames := 8, cells := 3, slots := 18, locals := 134 }) (gP x M [.ref (xa x 0), .int g, .int am, .ref (xa x 56)]) (gQ x (some (.int (lcd [eX, eA, eI] (erTe M gn g am)))) (if erTe M gn g am = none then up2 (teM M (tn g) am) 56 0 (prO (teM M (tn g) am (6 + tn g) 6) (teM M (tn g) am (6 + tn g) 7)) else M)) 3 18 (gF x) := by
  refine g_metW (cc := cL_tell) (maxL := 5) (ret := some .int) (hh := [(0, 10, 13, 25), (0, 10, 17, 13), (0, 10, 21, 15)]) (by decide) rfl (Nat.le_of_ble_eq_true rfl) ?_
  intro p e s m below meth c hx hb hr hml hts hown hlk ht hS hZ hP hV ls hl
  have hl : lv_has ls 5 [(0, .ref (xa x 0)), (1, .int g), (2, .int am), (3, .ref (xa x 56))] := hl
  have hw_k25 := hts (.classLink RL 25 eX) (by decide +kernel)
  have hw_k13 := hts (.classLink RL 13 eA) (by decide +kernel)
  have hw_k15 := hts (.classLink RL 15 eI) (by decide +kernel)
  refine lv_aload_n hx hb dL_tell_0 rfl (lv_at hl 3 rfl) ?_
  refine lv_iconst (v := 0) hx hb dL_tell_1 (by decide) ?_
  refine lv_aload_n hx hb dL_tell_2 rfl (lv_at hl 0 rfl) ?_
  refine lv_iload_n hx hb dL_tell_3 rfl (lv_at hl 1 rfl) ?_
  refine lv_iload_n hx hb dL_tell_4 rfl (lv_at hl 2 rfl) ?_
  refine g_xcall1 (vx_runV (As := [.int g, .int am]) (rest := [.int 0, .ref (xa x 56)]) ⟨hx, hb, hml, hown, hts⟩ (c_X2_tell l hlf x M cn gn dn pn g am hO) (cwV 2 hts gL_tell_X2_tell rfl rfl rfl (by decide +kernel) ⟨Nat.le_of_ble_eq_true rfl, Nat.le_of_ble_eq_true rfl⟩) (g_preV hS hZ hP hV [.int g, .int am] (id := 0) (by decide) rfl rfl) rfl rfl hl.1 rfl (lv_room (Nat.le_of_ble_eq_true rfl)) dL_tell_5 ⟨Nat.le_of_ble_eq_true rfl, Nat.le_of_ble_eq_true rfl⟩) hV (fun E ce xq H locs hE hP hV h1 h2 h3 => ?_) (fun H locs x_1 hP hV => ?_)
  · have hm := is_tell E hE
    simp only [List.mem_cons, List.not_mem_nil, or_false] at hm
    rcases hm with rfl | rfl | rfl
    · -- eX
      refine vx_catch (own := RL) (name := eX) (E := eX) hown [] ⟨0, 10, 13, 25⟩ [⟨0, 10, 17, 13⟩, ⟨0, 10, 21, 15⟩] ht (fun z hz => nomatch hz) (by decide) (by decide) hw_k25 (va_Nw.use rfl (hS.2.2.2.2.2.2.1 eX (by decide) _ List.mem_cons_self)) h1 h2 h3 ?_
      refine lv_astore (lv' := [(4, .ref xq), (0, .ref (xa x 0)), (1, .int g), (2, .int am), (3, .ref (xa x 56))]) hx hb dL_tell_13 hl (by decide) rfl (fun ls hl => ?_)
      refine lv_iconst (v := 1) hx hb dL_tell_15 (by decide) ?_
      exact g_iret hx hb hr hlk hS hZ hP hV (Nat.le_of_ble_eq_true rfl) (Nat.le_of_ble_eq_true rfl) dL_tell_16 (by rw [hE]; rfl) (by exact (if_neg (by rw [hE]; exact fun z => nomatch z)).symm)
    · -- eA
      refine vx_catch (own := RL) (name := eA) (E := eA) hown [⟨0, 10, 13, 25⟩] ⟨0, 10, 17, 13⟩ [⟨0, 10, 21, 15⟩] ht (g_pass1 hw_k25 (hS.2.2.2.2.2.2.2 (eA, eX) (by decide)) (by decide)) (by decide) (by decide) hw_k13 (va_Nw.use rfl (hS.2.2.2.2.2.2.1 eA (by decide) _ List.mem_cons_self)) h1 h2 h3 ?_
      refine lv_astore (lv' := [(4, .ref xq), (0, .ref (xa x 0)), (1, .int g), (2, .int am), (3, .ref (xa x 56))]) hx hb dL_tell_17 hl (by decide) rfl (fun ls hl => ?_)
      refine lv_iconst (v := 2) hx hb dL_tell_19 (by decide) ?_
      exact g_iret hx hb hr hlk hS hZ hP hV (Nat.le_of_ble_eq_true rfl) (Nat.le_of_ble_eq_true rfl) dL_tell_20 (by rw [hE]; rfl) (by exact (if_neg (by rw [hE]; exact fun z => nomatch z)).symm)
    · -- eI
      refine vx_catch (own := RL) (name := eI) (E := eI) hown [⟨0, 10, 13, 25⟩, ⟨0, 10, 17, 13⟩] ⟨0, 10, 21, 15⟩ [] ht (g_pass2 hw_k25 (hS.2.2.2.2.2.2.2 (eI, eX) (by decide)) (by decide) hw_k13 (hS.2.2.2.2.2.2.2 (eI, eA) (by decide)) (by decide)) (by decide) (by decide) hw_k15 (va_Nw.use rfl (hS.2.2.2.2.2.2.1 eI (by decide) _ List.mem_cons_self)) h1 h2 h3 ?_
      refine lv_astore (lv' := [(4, .ref xq), (0, .ref (xa x 0)), (1, .int g), (2, .int am), (3, .ref (xa x 56))]) hx hb dL_tell_21 hl (by decide) rfl (fun ls hl => ?_)
      refine lv_iconst (v := 3) hx hb dL_tell_23 (by decide) ?_
      exact g_iret hx hb hr hlk hS hZ hP hV (Nat.le_of_ble_eq_true rfl) (Nat.le_of_ble_eq_true rfl) dL_tell_24 (by rw [hE]; rfl) (by exact (if_neg (by rw [hE]; exact fun z => nomatch z)).symm)
  refine lv_i2l (v := (prO (teM M (tn g) am (6 + tn g) 6) (teM M (tn g) am (6 + tn g) 7)).toInt64) hx hb dL_tell_8 rfl ?_
  refine g_last (v := prO (teM M (tn g) am (6 + tn g) 6) (teM M (tn g) am (6 + tn g) 7)) hx hb hS hP hV (by first | rfl | decide) dL_tell_9 (fun H locs hP hV => ?_)
  refine lv_goto (tgt := 25) hx hb dL_tell_10 (by decide) ?_
  refine lv_iconst (v := 0) hx hb dL_tell_25 (by decide) ?_
  exact g_iret hx hb hr hlk hS hZ hP hV (Nat.le_of_ble_eq_true rfl) (Nat.le_of_ble_eq_true rfl) dL_tell_26 (by rw [x_1]; rfl) (by exact (if_pos x_1).symm)
set_option maxHeartbeats 4000000 in
set_option maxRecDepth 100000 in
theorem c_L_lifted (l : Launch) (hlf : l.stackTraces = false) (x : Cx) (M : Nat → Nat → Int32) (cn gn dn : Nat) (pn : Nat → Nat) (a q : Int32) (hO : OkO M cn gn dn pn) : Met l yL_lifted wsL_lifted ({ frames := 9, cells := 2, slots := 12, locals := 193 }) (gP x M [.ref (xa x 0), .int a, .int q, .ref (xa x 56)]) (gQ x (some (.int (lcd [eX] (erPc cn pn a q)))) (if erPc cn pn a q = none then up2 M 56 0 (bcI (liO M pn cn (tn a) (tn q))) else M)) 2 12 (gF x) := by
  refine g_metW (cc := cL_lifted) (maxL := 5) (ret := some .int) (hh := [(0, 10, 13, 25)]) (by decide) rfl (Nat.le_of_ble_eq_true rfl) ?_
  intro p e s m below meth c hx hb hr hml hts hown hlk ht hS hZ hP hV ls hl
  have hl : lv_has ls 5 [(0, .ref (xa x 0)), (1, .int a), (2, .int q), (3, .ref (xa x 56))] := hl
  have hw_k25 := hts (.classLink RL 25 eX) (by decide +kernel)
  refine lv_aload_n hx hb dL_lifted_0 rfl (lv_at hl 3 rfl) ?_
  refine lv_iconst (v := 0) hx hb dL_lifted_1 (by decide) ?_
  refine lv_aload_n hx hb dL_lifted_2 rfl (lv_at hl 0 rfl) ?_
  refine lv_iload_n hx hb dL_lifted_3 rfl (lv_at hl 1 rfl) ?_
  refine lv_iload_n hx hb dL_lifted_4 rfl (lv_at hl 2 rfl) ?_
  refine g_xcall1 (vx_runV (As := [.int a, .int q]) (rest := [.int 0, .ref (xa x 56)]) ⟨hx, hb, hml, hown, hts⟩ (c_X2_lifted l hlf x M cn gn dn pn a q hO) (cwV 2 hts gL_lifted_X2_lifted rfl rfl rfl (by decide +kernel) ⟨Nat.le_of_ble_eq_true rfl, Nat.le_of_ble_eq_true rfl⟩) (g_preV hS hZ hP hV [.int a, .int q] (id := 0) (by decide) rfl rfl) rfl rfl hl.1 rfl (lv_room (Nat.le_of_ble_eq_true rfl)) dL_lifted_5 ⟨Nat.le_of_ble_eq_true rfl, Nat.le_of_ble_eq_true rfl⟩) hV (fun E ce xq H locs hE hP hV h1 h2 h3 => ?_) (fun H locs x_1 hP hV => ?_)
  · have hm := is_lifted E hE
    simp only [List.mem_cons, List.not_mem_nil, or_false] at hm
    rcases hm with rfl
    · -- eX
      refine vx_catch (own := RL) (name := eX) (E := eX) hown [] ⟨0, 10, 13, 25⟩ [] ht (fun z hz => nomatch hz) (by decide) (by decide) hw_k25 (va_Nw.use rfl (hS.2.2.2.2.2.2.1 eX (by decide) _ List.mem_cons_self)) h1 h2 h3 ?_
      refine lv_astore (lv' := [(4, .ref xq), (0, .ref (xa x 0)), (1, .int a), (2, .int q), (3, .ref (xa x 56))]) hx hb dL_lifted_13 hl (by decide) rfl (fun ls hl => ?_)
      refine lv_iconst (v := 1) hx hb dL_lifted_15 (by decide) ?_
      exact g_iret hx hb hr hlk hS hZ hP hV (Nat.le_of_ble_eq_true rfl) (Nat.le_of_ble_eq_true rfl) dL_lifted_16 (by rw [hE]; rfl) (by exact (if_neg (by rw [hE]; exact fun z => nomatch z)).symm)
  refine lv_i2l (v := (bcI (liO M pn cn (tn a) (tn q))).toInt64) hx hb dL_lifted_8 rfl ?_
  refine g_last (v := bcI (liO M pn cn (tn a) (tn q))) hx hb hS hP hV (by first | rfl | decide) dL_lifted_9 (fun H locs hP hV => ?_)
  refine lv_goto (tgt := 17) hx hb dL_lifted_10 (by decide) ?_
  refine lv_iconst (v := 0) hx hb dL_lifted_17 (by decide) ?_
  exact g_iret hx hb hr hlk hS hZ hP hV (Nat.le_of_ble_eq_true rfl) (Nat.le_of_ble_eq_true rfl) dL_lifted_18 (by rw [x_1]; rfl) (by exact (if_pos x_1).symm)
set_option maxHeartbeats 4000000 in
set_option maxRecDepth 100000 in
theorem c_L_cost (l : Launch) (hlf : l.stackTraces = false) (x : Cx) (M : Nat → Nat → Int32) (cn gn dn : Nat) (pn : Nat → Nat) (a q mo : Int32) (hO : OkO M cn gn dn pn) : Met l yL_cost wsL_cost ({ frames := 9, cells := 3, slots := 18, locals := 196 }) (gP x M [.ref (xa x 0), .int a, .int q, .int mo, .ref (xa x 56)]) (gQ x (some (.int (lcd [eX, eA] (orE (erPc cn pn a q) (erMo mo))))) (if orE (erPc cn pn a q) (erMo mo) = none then up2 M 56 0 (if psO M pn (liO M pn cn (tn a) (tn q)) cn = true then coO M pn cn (liO M pn cn (tn a) (tn q)) mo gn else -1) else M)) 3 18 (gF x) := by
  refine g_metW (cc := cL_cost) (maxL := 6) (ret := some .int) (hh := [(0, 12, 15, 25), (0, 12, 19, 13)]) (by decide) rfl (Nat.le_of_ble_eq_true rfl) ?_
  intro p e s m below meth c hx hb hr hml hts hown hlk ht hS hZ hP hV ls hl
  have hl : lv_has ls 6 [(0, .ref (xa x 0)), (1, .int a), (2, .int q), (3, .int mo), (4, .ref (xa x 56))] := hl
  have hw_k25 := hts (.classLink RL 25 eX) (by decide +kernel)
  have hw_k13 := hts (.classLink RL 13 eA) (by decide +kernel)
  refine lv_aload hx hb dL_cost_0 (lv_at hl 4 rfl) ?_
  refine lv_iconst (v := 0) hx hb dL_cost_2 (by decide) ?_
  refine lv_aload_n hx hb dL_cost_3 rfl (lv_at hl 0 rfl) ?_
  refine lv_iload_n hx hb dL_cost_4 rfl (lv_at hl 1 rfl) ?_
  refine lv_iload_n hx hb dL_cost_5 rfl (lv_at hl 2 rfl) ?_
  refine lv_iload_n hx hb dL_cost_6 rfl (lv_at hl 3 rfl) ?_
  refine g_xcall1 (vx_runV (As := [.int a, .int q, .int mo]) (rest := [.int 0, .ref (xa x 56)]) ⟨hx, hb, hml, hown, hts⟩ (c_X2_cost l hlf x M cn gn dn pn a q mo hO) (cwV 3 hts gL_cost_X2_cost rfl rfl rfl (by decide +kernel) ⟨Nat.le_of_ble_eq_true rfl, Nat.le_of_ble_eq_true rfl⟩) (g_preV hS hZ hP hV [.int a, .int q, .int mo] (id := 0) (by decide) rfl rfl) rfl rfl hl.1 rfl (lv_room (Nat.le_of_ble_eq_true rfl)) dL_cost_7 ⟨Nat.le_of_ble_eq_true rfl, Nat.le_of_ble_eq_true rfl⟩) hV (fun E ce xq H locs hE hP hV h1 h2 h3 => ?_) (fun H locs x_1 hP hV => ?_)
  · have hm := is_cost E hE
    simp only [List.mem_cons, List.not_mem_nil, or_false] at hm
    rcases hm with rfl | rfl
    · -- eX
      refine vx_catch (own := RL) (name := eX) (E := eX) hown [] ⟨0, 12, 15, 25⟩ [⟨0, 12, 19, 13⟩] ht (fun z hz => nomatch hz) (by decide) (by decide) hw_k25 (va_Nw.use rfl (hS.2.2.2.2.2.2.1 eX (by decide) _ List.mem_cons_self)) h1 h2 h3 ?_
      refine lv_astore (lv' := [(5, .ref xq), (0, .ref (xa x 0)), (1, .int a), (2, .int q), (3, .int mo), (4, .ref (xa x 56))]) hx hb dL_cost_15 hl (by decide) rfl (fun ls hl => ?_)
      refine lv_iconst (v := 1) hx hb dL_cost_17 (by decide) ?_
      exact g_iret hx hb hr hlk hS hZ hP hV (Nat.le_of_ble_eq_true rfl) (Nat.le_of_ble_eq_true rfl) dL_cost_18 (by rw [hE]; rfl) (by exact (if_neg (by rw [hE]; exact fun z => nomatch z)).symm)
    · -- eA
      refine vx_catch (own := RL) (name := eA) (E := eA) hown [⟨0, 12, 15, 25⟩] ⟨0, 12, 19, 13⟩ [] ht (g_pass1 hw_k25 (hS.2.2.2.2.2.2.2 (eA, eX) (by decide)) (by decide)) (by decide) (by decide) hw_k13 (va_Nw.use rfl (hS.2.2.2.2.2.2.1 eA (by decide) _ List.mem_cons_self)) h1 h2 h3 ?_
      refine lv_astore (lv' := [(5, .ref xq), (0, .ref (xa x 0)), (1, .int a), (2, .int q), (3, .int mo), (4, .ref (xa x 56))]) hx hb dL_cost_19 hl (by decide) rfl (fun ls hl => ?_)
      refine lv_iconst (v := 2) hx hb dL_cost_21 (by decide) ?_
      exact g_iret hx hb hr hlk hS hZ hP hV (Nat.le_of_ble_eq_true rfl) (Nat.le_of_ble_eq_true rfl) dL_cost_22 (by rw [hE]; rfl) (by exact (if_neg (by rw [hE]; exact fun z => nomatch z)).symm)
  refine lv_i2l (v := (if psO M pn (liO M pn cn (tn a) (tn q)) cn = true then coO M pn cn (liO M pn cn (tn a) (tn q)) mo gn else -1).toInt64) hx hb dL_cost_10 rfl ?_
  refine g_last (v := if psO M pn (liO M pn cn (tn a) (tn q)) cn = true then coO M pn cn (liO M pn cn (tn a) (tn q)) mo gn else -1) hx hb hS hP hV (by first | rfl | decide) dL_cost_11 (fun H locs hP hV => ?_)
  refine lv_goto (tgt := 23) hx hb dL_cost_12 (by decide) ?_
  refine lv_iconst (v := 0) hx hb dL_cost_23 (by decide) ?_
  exact g_iret hx hb hr hlk hS hZ hP hV (Nat.le_of_ble_eq_true rfl) (Nat.le_of_ble_eq_true rfl) dL_cost_24 (by rw [x_1]; rfl) (by exact (if_pos x_1).symm)
set_option maxHeartbeats 4000000 in
set_option maxRecDepth 100000 in
theorem c_L_repair (l : Launch) (hlf : l.stackTraces = false) (x : Cx) (M : Nat → Nat → Int32) (cn gn dn : Nat) (pn : Nat → Nat) (a q mo : Int32) (hO : OkO M cn gn dn pn) : Met l yL_repair wsL_repair ({ frames := 9, cells := 4, slots := 24, locals := 196 }) (gP x M [.ref (xa x 0), .int a, .int q, .int mo, .ref (xa x 56)]) (gQ x (some (.int (lcd [eX, eA, eI] (erRe M cn pn a q mo)))) (if erRe M cn pn a q mo = none then up2 (pgM (up2 M 0 8 (M 0 8 + 1)) pn cn (liO M pn cn (tn a) (tn q)) mo gn) 56 0 (coO (pgM (up2 M 0 8 (M 0 8 + 1)) pn cn (liO M pn cn (tn a) (tn q)) mo gn) pn cn (liO M pn cn (tn a) (tn q)) mo gn) else M)) 4 24 (gF x) := by
  refine g_metW (cc := cL_repair) (maxL := 6) (ret := some .int) (hh := [(0, 12, 15, 25), (0, 12, 19, 13), (0, 12, 23, 15)]) (by decide) rfl (Nat.le_of_ble_eq_true rfl) ?_
  intro p e s m below meth c hx hb hr hml hts hown hlk ht hS hZ hP hV ls hl
  have hl : lv_has ls 6 [(0, .ref (xa x 0)), (1, .int a), (2, .int q), (3, .int mo), (4, .ref (xa x 56))] := hl
  have hw_k25 := hts (.classLink RL 25 eX) (by decide +kernel)
  have hw_k13 := hts (.classLink RL 13 eA) (by decide +kernel)
  have hw_k15 := hts (.classLink RL 15 eI) (by decide +kernel)
  refine lv_aload hx hb dL_repair_0 (lv_at hl 4 rfl) ?_
  refine lv_iconst (v := 0) hx hb dL_repair_2 (by decide) ?_
  refine lv_aload_n hx hb dL_repair_3 rfl (lv_at hl 0 rfl) ?_
  refine lv_iload_n hx hb dL_repair_4 rfl (lv_at hl 1 rfl) ?_
  refine lv_iload_n hx hb dL_repair_5 rfl (lv_at hl 2 rfl) ?_
  refine lv_iload_n hx hb dL_repair_6 rfl (lv_at hl 3 rfl) ?_
  refine g_xcall1 (vx_runV (As := [.int a, .int q, .int mo]) (rest := [.int 0, .ref (xa x 56)]) ⟨hx, hb, hml, hown, hts⟩ (c_X2_repair l hlf x M cn gn dn pn a q mo hO) (cwV 3 hts gL_repair_X2_repair rfl rfl rfl (by decide +kernel) ⟨Nat.le_of_ble_eq_true rfl, Nat.le_of_ble_eq_true rfl⟩) (g_preV hS hZ hP hV [.int a, .int q, .int mo] (id := 0) (by decide) rfl rfl) rfl rfl hl.1 rfl (lv_room (Nat.le_of_ble_eq_true rfl)) dL_repair_7 ⟨Nat.le_of_ble_eq_true rfl, Nat.le_of_ble_eq_true rfl⟩) hV (fun E ce xq H locs hE hP hV h1 h2 h3 => ?_) (fun H locs x_1 hP hV => ?_)
  · have hm := is_repair E hE
    simp only [List.mem_cons, List.not_mem_nil, or_false] at hm
    rcases hm with rfl | rfl | rfl
    · -- eX
      refine vx_catch (own := RL) (name := eX) (E := eX) hown [] ⟨0, 12, 15, 25⟩ [⟨0, 12, 19, 13⟩, ⟨0, 12, 23, 15⟩] ht (fun z hz => nomatch hz) (by decide) (by decide) hw_k25 (va_Nw.use rfl (hS.2.2.2.2.2.2.1 eX (by decide) _ List.mem_cons_self)) h1 h2 h3 ?_
      refine lv_astore (lv' := [(5, .ref xq), (0, .ref (xa x 0)), (1, .int a), (2, .int q), (3, .int mo), (4, .ref (xa x 56))]) hx hb dL_repair_15 hl (by decide) rfl (fun ls hl => ?_)
      refine lv_iconst (v := 1) hx hb dL_repair_17 (by decide) ?_
      exact g_iret hx hb hr hlk hS hZ hP hV (Nat.le_of_ble_eq_true rfl) (Nat.le_of_ble_eq_true rfl) dL_repair_18 (by rw [hE]; rfl) (by exact (if_neg (by rw [hE]; exact fun z => nomatch z)).symm)
    · -- eA
      refine vx_catch (own := RL) (name := eA) (E := eA) hown [⟨0, 12, 15, 25⟩] ⟨0, 12, 19, 13⟩ [⟨0, 12, 23, 15⟩] ht (g_pass1 hw_k25 (hS.2.2.2.2.2.2.2 (eA, eX) (by decide)) (by decide)) (by decide) (by decide) hw_k13 (va_Nw.use rfl (hS.2.2.2.2.2.2.1 eA (by decide) _ List.mem_cons_self)) h1 h2 h3 ?_
      refine lv_astore (lv' := [(5, .ref xq), (0, .ref (xa x 0)), (1, .int a), (2, .int q), (3, .int mo), (4, .ref (xa x 56))]) hx hb dL_repair_19 hl (by decide) rfl (fun ls hl => ?_)
      refine lv_iconst (v := 2) hx hb dL_repair_21 (by decide) ?_
      exact g_iret hx hb hr hlk hS hZ hP hV (Nat.le_of_ble_eq_true rfl) (Nat.le_of_ble_eq_true rfl) dL_repair_22 (by rw [hE]; rfl) (by exact (if_neg (by rw [hE]; exact fun z => nomatch z)).symm)
    · -- eI
      refine vx_catch (own := RL) (name := eI) (E := eI) hown [⟨0, 12, 15, 25⟩, ⟨0, 12, 19, 13⟩] ⟨0, 12, 23, 15⟩ [] ht (g_pass2 hw_k25 (hS.2.2.2.2.2.2.2 (eI, eX) (by decide)) (by decide) hw_k13 (hS.2.2.2.2.2.2.2 (eI, eA) (by decide)) (by decide)) (by decide) (by decide) hw_k15 (va_Nw.use rfl (hS.2.2.2.2.2.2.1 eI (by decide) _ List.mem_cons_self)) h1 h2 h3 ?_
      refine lv_astore (lv' := [(5, .ref xq), (0, .ref (xa x 0)), (1, .int a), (2, .int q), (3, .int mo), (4, .ref (xa x 56))]) hx hb dL_repair_23 hl (by decide) rfl (fun ls hl => ?_)
      refine lv_iconst (v := 3) hx hb dL_repair_25 (by decide) ?_
      exact g_iret hx hb hr hlk hS hZ hP hV (Nat.le_of_ble_eq_true rfl) (Nat.le_of_ble_eq_true rfl) dL_repair_26 (by rw [hE]; rfl) (by exact (if_neg (by rw [hE]; exact fun z => nomatch z)).symm)
  refine lv_i2l (v := (coO (pgM (up2 M 0 8 (M 0 8 + 1)) pn cn (liO M pn cn (tn a) (tn q)) mo gn) pn cn (liO M pn cn (tn a) (tn q)) mo gn).toInt64) hx hb dL_repair_10 rfl ?_
  refine g_last (v := coO (pgM (up2 M 0 8 (M 0 8 + 1)) pn cn (liO M pn cn (tn a) (tn q)) mo gn) pn cn (liO M pn cn (tn a) (tn q)) mo gn) hx hb hS hP hV (by first | rfl | decide) dL_repair_11 (fun H locs hP hV => ?_)
  refine lv_goto (tgt := 27) hx hb dL_repair_12 (by decide) ?_
  refine lv_iconst (v := 0) hx hb dL_repair_27 (by decide) ?_
  exact g_iret hx hb hr hlk hS hZ hP hV (Nat.le_of_ble_eq_true rfl) (Nat.le_of_ble_eq_true rfl) dL_repair_28 (by rw [x_1]; rfl) (by exact (if_pos x_1).symm)
set_option maxHeartbeats 4000000 in
set_option maxRecDepth 100000 in
theorem c_L_paid (l : Launch) (hlf : l.stackTraces = false) (x : Cx) (M : Nat → Nat → Int32) (cn gn dn : Nat) (pn : Nat → Nat) (g : Int32) (hO : OkO M cn gn dn pn) : Met l yL_paid wsL_paid ({ frames := 8, cells := 1, slots := 6, locals := 132 }) (gP x M [.ref (xa x 0), .int g, .ref (xa x 56)]) (gQ x (some (.int (lcd [eX] (erC gn g)))) (if erC gn g = none then up2 M 56 0 (M (6 + tn g) 8) else M)) 1 6 (gF x) := by
  refine g_metW (cc := cL_paid) (maxL := 4) (ret := some .int) (hh := [(0, 9, 12, 25)]) (by decide) rfl (Nat.le_of_ble_eq_true rfl) ?_
  intro p e s m below meth c hx hb hr hml hts hown hlk ht hS hZ hP hV ls hl
  have hl : lv_has ls 4 [(0, .ref (xa x 0)), (1, .int g), (2, .ref (xa x 56))] := hl
  have hw_k25 := hts (.classLink RL 25 eX) (by decide +kernel)
  refine lv_aload_n hx hb dL_paid_0 rfl (lv_at hl 2 rfl) ?_
  refine lv_iconst (v := 0) hx hb dL_paid_1 (by decide) ?_
  refine lv_aload_n hx hb dL_paid_2 rfl (lv_at hl 0 rfl) ?_
  refine lv_iload_n hx hb dL_paid_3 rfl (lv_at hl 1 rfl) ?_
  refine g_xcall1 (vx_runV (As := [.int g]) (rest := [.int 0, .ref (xa x 56)]) ⟨hx, hb, hml, hown, hts⟩ (c_X2_paid l hlf x M cn gn dn pn g hO) (cwV 1 hts gL_paid_X2_paid rfl rfl rfl (by decide +kernel) ⟨Nat.le_of_ble_eq_true rfl, Nat.le_of_ble_eq_true rfl⟩) (g_preV hS hZ hP hV [.int g] (id := 0) (by decide) rfl rfl) rfl rfl hl.1 rfl (lv_room (Nat.le_of_ble_eq_true rfl)) dL_paid_4 ⟨Nat.le_of_ble_eq_true rfl, Nat.le_of_ble_eq_true rfl⟩) hV (fun E ce xq H locs hE hP hV h1 h2 h3 => ?_) (fun H locs x_1 hP hV => ?_)
  · have hm := is_paid E hE
    simp only [List.mem_cons, List.not_mem_nil, or_false] at hm
    rcases hm with rfl
    · -- eX
      refine vx_catch (own := RL) (name := eX) (E := eX) hown [] ⟨0, 9, 12, 25⟩ [] ht (fun z hz => nomatch hz) (by decide) (by decide) hw_k25 (va_Nw.use rfl (hS.2.2.2.2.2.2.1 eX (by decide) _ List.mem_cons_self)) h1 h2 h3 ?_
      refine lv_astore_n (lv' := [(3, .ref xq), (0, .ref (xa x 0)), (1, .int g), (2, .ref (xa x 56))]) hx hb dL_paid_12 rfl hl (by decide) rfl (fun ls hl => ?_)
      refine lv_iconst (v := 1) hx hb dL_paid_13 (by decide) ?_
      exact g_iret hx hb hr hlk hS hZ hP hV (Nat.le_of_ble_eq_true rfl) (Nat.le_of_ble_eq_true rfl) dL_paid_14 (by rw [hE]; rfl) (by exact (if_neg (by rw [hE]; exact fun z => nomatch z)).symm)
  refine lv_i2l (v := (M (6 + tn g) 8).toInt64) hx hb dL_paid_7 rfl ?_
  refine g_last (v := M (6 + tn g) 8) hx hb hS hP hV (by first | rfl | decide) dL_paid_8 (fun H locs hP hV => ?_)
  refine lv_goto (tgt := 15) hx hb dL_paid_9 (by decide) ?_
  refine lv_iconst (v := 0) hx hb dL_paid_15 (by decide) ?_
  exact g_iret hx hb hr hlk hS hZ hP hV (Nat.le_of_ble_eq_true rfl) (Nat.le_of_ble_eq_true rfl) dL_paid_16 (by rw [x_1]; rfl) (by exact (if_pos x_1).symm)
set_option maxHeartbeats 4000000 in
set_option maxRecDepth 100000 in
theorem c_L_isWell (l : Launch) (hlf : l.stackTraces = false) (x : Cx) (M : Nat → Nat → Int32) (cn gn dn : Nat) (pn : Nat → Nat) (a b : Int32) (hO : OkO M cn gn dn pn) : Met l yL_isWell wsL_isWell ({ frames := 9, cells := 2, slots := 12, locals := 155 }) (gP x M [.ref (xa x 0), .int a, .int b, .ref (xa x 56)]) (gQ x (some (.int (lcd [eX] (erCC cn a b)))) (if erCC cn a b = none then up2 M 56 0 (bI (weO M (tn a) (tn b))) else M)) 2 12 (gF x) := by
  refine g_metW (cc := cL_isWell) (maxL := 5) (ret := some .int) (hh := [(0, 17, 20, 25)]) (by decide) rfl (Nat.le_of_ble_eq_true rfl) ?_
  intro p e s m below meth c hx hb hr hml hts hown hlk ht hS hZ hP hV ls hl
  have hl : lv_has ls 5 [(0, .ref (xa x 0)), (1, .int a), (2, .int b), (3, .ref (xa x 56))] := hl
  have hw_k25 := hts (.classLink RL 25 eX) (by decide +kernel)
  refine lv_aload_n hx hb dL_isWell_0 rfl (lv_at hl 3 rfl) ?_
  refine lv_iconst (v := 0) hx hb dL_isWell_1 (by decide) ?_
  refine lv_aload_n hx hb dL_isWell_2 rfl (lv_at hl 0 rfl) ?_
  refine lv_iload_n hx hb dL_isWell_3 rfl (lv_at hl 1 rfl) ?_
  refine lv_iload_n hx hb dL_isWell_4 rfl (lv_at hl 2 rfl) ?_
  refine g_xcall1 (vx_runV (As := [.int a, .int b]) (rest := [.int 0, .ref (xa x 56)]) ⟨hx, hb, hml, hown, hts⟩ (c_X2_isWell l hlf x M cn gn dn pn a b hO) (cwV 2 hts gL_isWell_X2_isWell rfl rfl rfl (by decide +kernel) ⟨Nat.le_of_ble_eq_true rfl, Nat.le_of_ble_eq_true rfl⟩) (g_preV hS hZ hP hV [.int a, .int b] (id := 0) (by decide) rfl rfl) rfl rfl hl.1 rfl (lv_room (Nat.le_of_ble_eq_true rfl)) dL_isWell_5 ⟨Nat.le_of_ble_eq_true rfl, Nat.le_of_ble_eq_true rfl⟩) hV (fun E ce xq H locs hE hP hV h1 h2 h3 => ?_) (fun H locs x_1 hP hV => ?_)
  · have hm := is_isWell E hE
    simp only [List.mem_cons, List.not_mem_nil, or_false] at hm
    rcases hm with rfl
    · -- eX
      refine vx_catch (own := RL) (name := eX) (E := eX) hown [] ⟨0, 17, 20, 25⟩ [] ht (fun z hz => nomatch hz) (by decide) (by decide) hw_k25 (va_Nw.use rfl (hS.2.2.2.2.2.2.1 eX (by decide) _ List.mem_cons_self)) h1 h2 h3 ?_
      refine lv_astore (lv' := [(4, .ref xq), (0, .ref (xa x 0)), (1, .int a), (2, .int b), (3, .ref (xa x 56))]) hx hb dL_isWell_20 hl (by decide) rfl (fun ls hl => ?_)
      refine lv_iconst (v := 1) hx hb dL_isWell_22 (by decide) ?_
      exact g_iret hx hb hr hlk hS hZ hP hV (Nat.le_of_ble_eq_true rfl) (Nat.le_of_ble_eq_true rfl) dL_isWell_23 (by rw [hE]; rfl) (by exact (if_neg (by rw [hE]; exact fun z => nomatch z)).symm)
  refine h_if_eq_b (tgt := 15) hx hb dL_isWell_8 (by decide) (fun c_2 => ?_) (fun c_2 => ?_)
  · -- taken
    refine lv_lconst (v := 0) hx hb dL_isWell_15 (by decide) ?_
    refine g_last (v := 0) hx hb hS hP hV (by first | rfl | decide) dL_isWell_16 (fun H locs hP hV => ?_)
    refine lv_goto (tgt := 24) hx hb dL_isWell_17 (by decide) ?_
    refine lv_iconst (v := 0) hx hb dL_isWell_24 (by decide) ?_
    exact g_iret hx hb hr hlk hS hZ hP hV (Nat.le_of_ble_eq_true rfl) (Nat.le_of_ble_eq_true rfl) dL_isWell_25 (by rw [x_1]; rfl) (by rw [if_pos x_1, c_2]; rfl)
  · -- on
    refine lv_lconst (v := 1) hx hb dL_isWell_11 (by decide) ?_
    refine lv_goto (tgt := 16) hx hb dL_isWell_12 (by decide) ?_
    refine g_last (v := 1) hx hb hS hP hV (by first | rfl | decide) dL_isWell_16 (fun H locs hP hV => ?_)
    refine lv_goto (tgt := 24) hx hb dL_isWell_17 (by decide) ?_
    refine lv_iconst (v := 0) hx hb dL_isWell_24 (by decide) ?_
    exact g_iret hx hb hr hlk hS hZ hP hV (Nat.le_of_ble_eq_true rfl) (Nat.le_of_ble_eq_true rfl) dL_isWell_25 (by rw [x_1]; rfl) (by rw [if_pos x_1, c_2]; rfl)
set_option maxHeartbeats 4000000 in
set_option maxRecDepth 100000 in
theorem c_L_isClosed (l : Launch) (hlf : l.stackTraces = false) (x : Cx) (M : Nat → Nat → Int32) (cn gn dn : Nat) (pn : Nat → Nat) (g mo : Int32) (hO : OkO M cn gn dn pn) : Met l yL_isClosed wsL_isClosed ({ frames := 8, cells := 2, slots := 12, locals := 133 }) (gP x M [.ref (xa x 0), .int g, .int mo, .ref (xa x 56)]) (gQ x (some (.int (lcd [eX, eA] (orE (erC gn g) (erMo mo))))) (if orE (erC gn g) (erMo mo) = none then up2 M 56 0 (bI (shutO (M (6 + tn g) 4) (M (6 + tn g) 5) mo)) else M)) 2 12 (gF x) := by
  refine g_metW (cc := cL_isClosed) (maxL := 5) (ret := some .int) (hh := [(0, 17, 20, 25), (0, 17, 24, 13)]) (by decide) rfl (Nat.le_of_ble_eq_true rfl) ?_
  intro p e s m below meth c hx hb hr hml hts hown hlk ht hS hZ hP hV ls hl
  have hl : lv_has ls 5 [(0, .ref (xa x 0)), (1, .int g), (2, .int mo), (3, .ref (xa x 56))] := hl
  have hw_k25 := hts (.classLink RL 25 eX) (by decide +kernel)
  have hw_k13 := hts (.classLink RL 13 eA) (by decide +kernel)
  refine lv_aload_n hx hb dL_isClosed_0 rfl (lv_at hl 3 rfl) ?_
  refine lv_iconst (v := 0) hx hb dL_isClosed_1 (by decide) ?_
  refine lv_aload_n hx hb dL_isClosed_2 rfl (lv_at hl 0 rfl) ?_
  refine lv_iload_n hx hb dL_isClosed_3 rfl (lv_at hl 1 rfl) ?_
  refine lv_iload_n hx hb dL_isClosed_4 rfl (lv_at hl 2 rfl) ?_
  refine g_xcall1 (vx_runV (As := [.int g, .int mo]) (rest := [.int 0, .ref (xa x 56)]) ⟨hx, hb, hml, hown, hts⟩ (c_X2_isClosed l hlf x M cn gn dn pn g mo hO) (cwV 2 hts gL_isClosed_X2_isClosed rfl rfl rfl (by decide +kernel) ⟨Nat.le_of_ble_eq_true rfl, Nat.le_of_ble_eq_true rfl⟩) (g_preV hS hZ hP hV [.int g, .int mo] (id := 0) (by decide) rfl rfl) rfl rfl hl.1 rfl (lv_room (Nat.le_of_ble_eq_true rfl)) dL_isClosed_5 ⟨Nat.le_of_ble_eq_true rfl, Nat.le_of_ble_eq_true rfl⟩) hV (fun E ce xq H locs hE hP hV h1 h2 h3 => ?_) (fun H locs x_1 hP hV => ?_)
  · have hm := is_isClosed E hE
    simp only [List.mem_cons, List.not_mem_nil, or_false] at hm
    rcases hm with rfl | rfl
    · -- eX
      refine vx_catch (own := RL) (name := eX) (E := eX) hown [] ⟨0, 17, 20, 25⟩ [⟨0, 17, 24, 13⟩] ht (fun z hz => nomatch hz) (by decide) (by decide) hw_k25 (va_Nw.use rfl (hS.2.2.2.2.2.2.1 eX (by decide) _ List.mem_cons_self)) h1 h2 h3 ?_
      refine lv_astore (lv' := [(4, .ref xq), (0, .ref (xa x 0)), (1, .int g), (2, .int mo), (3, .ref (xa x 56))]) hx hb dL_isClosed_20 hl (by decide) rfl (fun ls hl => ?_)
      refine lv_iconst (v := 1) hx hb dL_isClosed_22 (by decide) ?_
      exact g_iret hx hb hr hlk hS hZ hP hV (Nat.le_of_ble_eq_true rfl) (Nat.le_of_ble_eq_true rfl) dL_isClosed_23 (by rw [hE]; rfl) (by exact (if_neg (by rw [hE]; exact fun z => nomatch z)).symm)
    · -- eA
      refine vx_catch (own := RL) (name := eA) (E := eA) hown [⟨0, 17, 20, 25⟩] ⟨0, 17, 24, 13⟩ [] ht (g_pass1 hw_k25 (hS.2.2.2.2.2.2.2 (eA, eX) (by decide)) (by decide)) (by decide) (by decide) hw_k13 (va_Nw.use rfl (hS.2.2.2.2.2.2.1 eA (by decide) _ List.mem_cons_self)) h1 h2 h3 ?_
      refine lv_astore (lv' := [(4, .ref xq), (0, .ref (xa x 0)), (1, .int g), (2, .int mo), (3, .ref (xa x 56))]) hx hb dL_isClosed_24 hl (by decide) rfl (fun ls hl => ?_)
      refine lv_iconst (v := 2) hx hb dL_isClosed_26 (by decide) ?_
      exact g_iret hx hb hr hlk hS hZ hP hV (Nat.le_of_ble_eq_true rfl) (Nat.le_of_ble_eq_true rfl) dL_isClosed_27 (by rw [hE]; rfl) (by exact (if_neg (by rw [hE]; exact fun z => nomatch z)).symm)
  refine h_if_eq_b (tgt := 15) hx hb dL_isClosed_8 (by decide) (fun c_2 => ?_) (fun c_2 => ?_)
  · -- taken
    refine lv_lconst (v := 0) hx hb dL_isClosed_15 (by decide) ?_
    refine g_last (v := 0) hx hb hS hP hV (by first | rfl | decide) dL_isClosed_16 (fun H locs hP hV => ?_)
    refine lv_goto (tgt := 28) hx hb dL_isClosed_17 (by decide) ?_
    refine lv_iconst (v := 0) hx hb dL_isClosed_28 (by decide) ?_
    exact g_iret hx hb hr hlk hS hZ hP hV (Nat.le_of_ble_eq_true rfl) (Nat.le_of_ble_eq_true rfl) dL_isClosed_29 (by rw [x_1]; rfl) (by rw [if_pos x_1, c_2]; rfl)
  · -- on
    refine lv_lconst (v := 1) hx hb dL_isClosed_11 (by decide) ?_
    refine lv_goto (tgt := 16) hx hb dL_isClosed_12 (by decide) ?_
    refine g_last (v := 1) hx hb hS hP hV (by first | rfl | decide) dL_isClosed_16 (fun H locs hP hV => ?_)
    refine lv_goto (tgt := 28) hx hb dL_isClosed_17 (by decide) ?_
    refine lv_iconst (v := 0) hx hb dL_isClosed_28 (by decide) ?_
    exact g_iret hx hb hr hlk hS hZ hP hV (Nat.le_of_ble_eq_true rfl) (Nat.le_of_ble_eq_true rfl) dL_isClosed_29 (by rw [x_1]; rfl) (by rw [if_pos x_1, c_2]; rfl)
set_option maxHeartbeats 4000000 in
set_option maxRecDepth 100000 in
theorem c_L_touches (l : Launch) (hlf : l.stackTraces = false) (x : Cx) (M : Nat → Nat → Int32) (cn gn dn : Nat) (pn : Nat → Nat) (a q g : Int32) (hO : OkO M cn gn dn pn) : Met l yL_touches wsL_touches ({ frames := 9, cells := 3, slots := 18, locals := 156 }) (gP x M [.ref (xa x 0), .int a, .int q, .int g, .ref (xa x 56)]) (gQ x (some (.int (lcd [eX] (orE (erPc cn pn a q) (erC gn g))))) (if orE (erPc cn pn a q) (erC gn g) = none then up2 M 56 0 (bI (mtO (rX M (tn a)) (rY M (tn a)) (tn q) (M (6 + tn g) 0) (M (6 + tn g) 1) (M (6 + tn g) 2) (M (6 + tn g) 3))) else M)) 3 18 (gF x) := by
  refine g_metW (cc := cL_touches) (maxL := 6) (ret := some .int) (hh := [(0, 19, 22, 25)]) (by decide) rfl (Nat.le_of_ble_eq_true rfl) ?_
  intro p e s m below meth c hx hb hr hml hts hown hlk ht hS hZ hP hV ls hl
  have hl : lv_has ls 6 [(0, .ref (xa x 0)), (1, .int a), (2, .int q), (3, .int g), (4, .ref (xa x 56))] := hl
  have hw_k25 := hts (.classLink RL 25 eX) (by decide +kernel)
  refine lv_aload hx hb dL_touches_0 (lv_at hl 4 rfl) ?_
  refine lv_iconst (v := 0) hx hb dL_touches_2 (by decide) ?_
  refine lv_aload_n hx hb dL_touches_3 rfl (lv_at hl 0 rfl) ?_
  refine lv_iload_n hx hb dL_touches_4 rfl (lv_at hl 1 rfl) ?_
  refine lv_iload_n hx hb dL_touches_5 rfl (lv_at hl 2 rfl) ?_
  refine lv_iload_n hx hb dL_touches_6 rfl (lv_at hl 3 rfl) ?_
  refine g_xcall1 (vx_runV (As := [.int a, .int q, .int g]) (rest := [.int 0, .ref (xa x 56)]) ⟨hx, hb, hml, hown, hts⟩ (c_X2_touches l hlf x M cn gn dn pn a q g hO) (cwV 3 hts gL_touches_X2_touches rfl rfl rfl (by decide +kernel) ⟨Nat.le_of_ble_eq_true rfl, Nat.le_of_ble_eq_true rfl⟩) (g_preV hS hZ hP hV [.int a, .int q, .int g] (id := 0) (by decide) rfl rfl) rfl rfl hl.1 rfl (lv_room (Nat.le_of_ble_eq_true rfl)) dL_touches_7 ⟨Nat.le_of_ble_eq_true rfl, Nat.le_of_ble_eq_true rfl⟩) hV (fun E ce xq H locs hE hP hV h1 h2 h3 => ?_) (fun H locs x_1 hP hV => ?_)
  · have hm := is_touches E hE
    simp only [List.mem_cons, List.not_mem_nil, or_false] at hm
    rcases hm with rfl
    · -- eX
      refine vx_catch (own := RL) (name := eX) (E := eX) hown [] ⟨0, 19, 22, 25⟩ [] ht (fun z hz => nomatch hz) (by decide) (by decide) hw_k25 (va_Nw.use rfl (hS.2.2.2.2.2.2.1 eX (by decide) _ List.mem_cons_self)) h1 h2 h3 ?_
      refine lv_astore (lv' := [(5, .ref xq), (0, .ref (xa x 0)), (1, .int a), (2, .int q), (3, .int g), (4, .ref (xa x 56))]) hx hb dL_touches_22 hl (by decide) rfl (fun ls hl => ?_)
      refine lv_iconst (v := 1) hx hb dL_touches_24 (by decide) ?_
      exact g_iret hx hb hr hlk hS hZ hP hV (Nat.le_of_ble_eq_true rfl) (Nat.le_of_ble_eq_true rfl) dL_touches_25 (by rw [hE]; rfl) (by exact (if_neg (by rw [hE]; exact fun z => nomatch z)).symm)
  refine h_if_eq_b (tgt := 17) hx hb dL_touches_10 (by decide) (fun c_2 => ?_) (fun c_2 => ?_)
  · -- taken
    refine lv_lconst (v := 0) hx hb dL_touches_17 (by decide) ?_
    refine g_last (v := 0) hx hb hS hP hV (by first | rfl | decide) dL_touches_18 (fun H locs hP hV => ?_)
    refine lv_goto (tgt := 26) hx hb dL_touches_19 (by decide) ?_
    refine lv_iconst (v := 0) hx hb dL_touches_26 (by decide) ?_
    exact g_iret hx hb hr hlk hS hZ hP hV (Nat.le_of_ble_eq_true rfl) (Nat.le_of_ble_eq_true rfl) dL_touches_27 (by rw [x_1]; rfl) (by rw [if_pos x_1, c_2]; rfl)
  · -- on
    refine lv_lconst (v := 1) hx hb dL_touches_13 (by decide) ?_
    refine lv_goto (tgt := 18) hx hb dL_touches_14 (by decide) ?_
    refine g_last (v := 1) hx hb hS hP hV (by first | rfl | decide) dL_touches_18 (fun H locs hP hV => ?_)
    refine lv_goto (tgt := 26) hx hb dL_touches_19 (by decide) ?_
    refine lv_iconst (v := 0) hx hb dL_touches_26 (by decide) ?_
    exact g_iret hx hb hr hlk hS hZ hP hV (Nat.le_of_ble_eq_true rfl) (Nat.le_of_ble_eq_true rfl) dL_touches_27 (by rw [x_1]; rfl) (by rw [if_pos x_1, c_2]; rfl)
set_option maxHeartbeats 4000000 in
set_option maxRecDepth 100000 in
theorem c_L_isAgreed (l : Launch) (hlf : l.stackTraces = false) (x : Cx) (M : Nat → Nat → Int32) (cn gn dn : Nat) (pn : Nat → Nat) (a b : Int32) (hO : OkO M cn gn dn pn) (hA : ∀ i, i < 64 → vp_nar .boolean (M 4 i) = M 4 i) : Met l yL_isAgreed wsL_isAgreed ({ frames := 9, cells := 2, slots := 12, locals := 155 }) (gP x M [.ref (xa x 0), .int a, .int b, .ref (xa x 56)]) (gQ x (some (.int (lcd [eX] (erCC cn a b)))) (if erCC cn a b = none then up2 M 56 0 (bI (!decide (M 4 (pr (tn a) (tn b)) = 0))) else M)) 2 12 (gF x) := by
  refine g_metW (cc := cL_isAgreed) (maxL := 5) (ret := some .int) (hh := [(0, 17, 20, 25)]) (by decide) rfl (Nat.le_of_ble_eq_true rfl) ?_
  intro p e s m below meth c hx hb hr hml hts hown hlk ht hS hZ hP hV ls hl
  have hl : lv_has ls 5 [(0, .ref (xa x 0)), (1, .int a), (2, .int b), (3, .ref (xa x 56))] := hl
  have hw_k25 := hts (.classLink RL 25 eX) (by decide +kernel)
  refine lv_aload_n hx hb dL_isAgreed_0 rfl (lv_at hl 3 rfl) ?_
  refine lv_iconst (v := 0) hx hb dL_isAgreed_1 (by decide) ?_
  refine lv_aload_n hx hb dL_isAgreed_2 rfl (lv_at hl 0 rfl) ?_
  refine lv_iload_n hx hb dL_isAgreed_3 rfl (lv_at hl 1 rfl) ?_
  refine lv_iload_n hx hb dL_isAgreed_4 rfl (lv_at hl 2 rfl) ?_
  refine g_xcall1 (vx_runV (As := [.int a, .int b]) (rest := [.int 0, .ref (xa x 56)]) ⟨hx, hb, hml, hown, hts⟩ (c_X2_isAgreed l hlf x M cn gn dn pn a b hO hA) (cwV 2 hts gL_isAgreed_X2_isAgreed rfl rfl rfl (by decide +kernel) ⟨Nat.le_of_ble_eq_true rfl, Nat.le_of_ble_eq_true rfl⟩) (g_preV hS hZ hP hV [.int a, .int b] (id := 0) (by decide) rfl rfl) rfl rfl hl.1 rfl (lv_room (Nat.le_of_ble_eq_true rfl)) dL_isAgreed_5 ⟨Nat.le_of_ble_eq_true rfl, Nat.le_of_ble_eq_true rfl⟩) hV (fun E ce xq H locs hE hP hV h1 h2 h3 => ?_) (fun H locs x_1 hP hV => ?_)
  · have hm := is_isAgreed E hE
    simp only [List.mem_cons, List.not_mem_nil, or_false] at hm
    rcases hm with rfl
    · -- eX
      refine vx_catch (own := RL) (name := eX) (E := eX) hown [] ⟨0, 17, 20, 25⟩ [] ht (fun z hz => nomatch hz) (by decide) (by decide) hw_k25 (va_Nw.use rfl (hS.2.2.2.2.2.2.1 eX (by decide) _ List.mem_cons_self)) h1 h2 h3 ?_
      refine lv_astore (lv' := [(4, .ref xq), (0, .ref (xa x 0)), (1, .int a), (2, .int b), (3, .ref (xa x 56))]) hx hb dL_isAgreed_20 hl (by decide) rfl (fun ls hl => ?_)
      refine lv_iconst (v := 1) hx hb dL_isAgreed_22 (by decide) ?_
      exact g_iret hx hb hr hlk hS hZ hP hV (Nat.le_of_ble_eq_true rfl) (Nat.le_of_ble_eq_true rfl) dL_isAgreed_23 (by rw [hE]; rfl) (by exact (if_neg (by rw [hE]; exact fun z => nomatch z)).symm)
  refine lv_if_eq (tgt := 15) hx hb dL_isAgreed_8 (by decide) (fun c_2 => ?_) (fun c_2 => ?_)
  · -- taken
    refine lv_lconst (v := 0) hx hb dL_isAgreed_15 (by decide) ?_
    refine g_last (v := 0) hx hb hS hP hV (by first | rfl | decide) dL_isAgreed_16 (fun H locs hP hV => ?_)
    refine lv_goto (tgt := 24) hx hb dL_isAgreed_17 (by decide) ?_
    refine lv_iconst (v := 0) hx hb dL_isAgreed_24 (by decide) ?_
    exact g_iret hx hb hr hlk hS hZ hP hV (Nat.le_of_ble_eq_true rfl) (Nat.le_of_ble_eq_true rfl) dL_isAgreed_25 (by rw [x_1]; rfl) (by have hz := c_2; rw [if_pos x_1]; simp [bI, hz])
  · -- on
    refine lv_lconst (v := 1) hx hb dL_isAgreed_11 (by decide) ?_
    refine lv_goto (tgt := 16) hx hb dL_isAgreed_12 (by decide) ?_
    refine g_last (v := 1) hx hb hS hP hV (by first | rfl | decide) dL_isAgreed_16 (fun H locs hP hV => ?_)
    refine lv_goto (tgt := 24) hx hb dL_isAgreed_17 (by decide) ?_
    refine lv_iconst (v := 0) hx hb dL_isAgreed_24 (by decide) ?_
    exact g_iret hx hb hr hlk hS hZ hP hV (Nat.le_of_ble_eq_true rfl) (Nat.le_of_ble_eq_true rfl) dL_isAgreed_25 (by rw [x_1]; rfl) (by have hz := c_2; rw [if_pos x_1]; simp [bI, hz])
