/-! ONE MEMORY: the office, the model and the law's own row as one memory M of ints, by numbers of cells; GH: the heap holds it; every contract speaks of M. -/
def bI (b : Bool) : Int32 := if b then 1 else 0
def up2 (M : Nat → Nat → Int32) (i k : Nat) (v : Int32) : Nat → Nat → Int32 := fun a => if a = i then upd (M i) k v else M a
theorem up2_self (M : Nat → Nat → Int32) (i k : Nat) (v : Int32) : up2 M i k v i = upd (M i) k v := by simp [up2]
theorem up2_ne (M : Nat → Nat → Int32) {i j : Nat} (k : Nat) (v : Int32) (h : j ≠ i) : up2 M i k v j = M j := by simp [up2, h]
/-- the context: class ids and slots, array classes, the bound below which nothing is written, addresses by cell number, string addresses, the script -/
abbrev Cx : Type := va_G × (Nat → ClassId) × Nat × (Nat → Nat) × (Nat → Nat) × (Nat × Nat × (Nat → Int32))
abbrev xD (x : Cx) : va_G := x.1
abbrev xA (x : Cx) : Nat → ClassId := x.2.1
abbrev xB (x : Cx) : Nat := x.2.2.1
abbrev xa (x : Cx) : Nat → Nat := x.2.2.2.1
abbrev xs (x : Cx) : Nat → Nat := x.2.2.2.2.1
abbrev xb (x : Cx) : Nat := x.2.2.2.2.2.1
abbrev xL (x : Cx) : Nat := x.2.2.2.2.2.2.1
abbrev xX (x : Cx) : Nat → Int32 := x.2.2.2.2.2.2.2
def xT (x : Cx) : List (ClassId × FieldType) := [(xA x 0, .int), (xA x 1, .boolean), (xA x 2, .object RX1), (xA x 3, .object RX0), (xA x 4, .long)]
def shO (x : Cx) (r : Nat → Int32) : va_E := .inr (2, [.ref (xa x 35), .ref (xa x 1), .int (r 2), .ref (xa x 2), .ref (xa x 3), .ref (xa x 4), .ref (xa x 5), .int (r 7), .int (r 8)])
def shM (x : Cx) (r : Nat → Int32) : va_E := .inr (3, [.int (r 0), .int (r 1), .ref (xa x 39), .ref (xa x 40), .int (r 4), .ref (xa x 41), .ref (xa x 42), .ref (xa x 43), .ref (xa x 44), .int (r 9), .ref (xa x 45), .ref (xa x 46), .ref (xa x 47), .ref (xa x 48), .ref (xa x 49), .ref (xa x 50), .ref (xa x 51), .ref (xa x 52), .ref (xa x 53), .int (r 19), .ref (xa x 54), .ref (xa x 55)])
def shG (r : Nat → Int32) : va_E := .inr (0, [.int (r 0), .int (r 1), .int (r 2), .int (r 3), .int (r 4), .int (r 5), .int (r 6), .int (r 7), .int (r 8)])
def shR (x : Cx) (id : Nat) (r : Nat → Int32) : va_E := .inr (1, [.ref (xa x (id + 1)), .ref (xa x (id + 2)), .int (r 2)])
def shI (x : Cx) (n : Nat) (r : Nat → Int32) : va_E := .inl (xA x 0, n, .inl r)
def shZ (x : Cx) (n : Nat) (r : Nat → Int32) : va_E := .inl (xA x 1, n, .inl r)
def sh (x : Cx) (r : Nat → Int32) (id : Nat) : va_E :=
  if id = 0 then shO x r else if id = 1 then .inl (xA x 2, 8, .inr (.inr (.inr (.inr fun j => some (xa x (11 + 3 * j))))))
  else if id < 4 then shI x 64 r else if id = 4 then shZ x 64 r else if id = 5 then .inl (xA x 3, 5, .inr (.inr (.inr (.inr fun j => some (xa x (6 + j))))))
  else if id < 11 then shG r else if id < 38 then (if (id - 11) % 3 = 0 then shR x id r else shI x 8 r) else if id = 38 then shM x r
  else if id < 42 then shI x 8 r else if id < 44 then shI x 64 r else if id = 44 then shZ x 64 r else if id < 54 then shI x 5 r
  else if id = 54 then shZ x 64 r else if id = 55 then shI x 64 r else .inl (xA x 4, 1, .inr (.inl fun j => (r j).toInt64))
theorem sh_g (x : Cx) (r : Nat → Int32) {g : Nat} (h : g < 5) : sh x r (6 + g) = shG r := by
  rcases (show g = 0 ∨ g = 1 ∨ g = 2 ∨ g = 3 ∨ g = 4 by omega) with rfl | rfl | rfl | rfl | rfl <;> rfl
theorem sh_r (x : Cx) (r : Nat → Int32) {i : Nat} (h : i < 9) : sh x r (11 + 3 * i) = shR x (11 + 3 * i) r := by
  rcases (show i = 0 ∨ i = 1 ∨ i = 2 ∨ i = 3 ∨ i = 4 ∨ i = 5 ∨ i = 6 ∨ i = 7 ∨ i = 8 by omega) with rfl | rfl | rfl | rfl | rfl | rfl | rfl | rfl | rfl <;> rfl
theorem sh_x (x : Cx) (r : Nat → Int32) {i : Nat} (h : i < 9) : sh x r (11 + 3 * i + 1) = shI x 8 r := by
  rcases (show i = 0 ∨ i = 1 ∨ i = 2 ∨ i = 3 ∨ i = 4 ∨ i = 5 ∨ i = 6 ∨ i = 7 ∨ i = 8 by omega) with rfl | rfl | rfl | rfl | rfl | rfl | rfl | rfl | rfl <;> rfl
theorem sh_y (x : Cx) (r : Nat → Int32) {i : Nat} (h : i < 9) : sh x r (11 + 3 * i + 2) = shI x 8 r := by
  rcases (show i = 0 ∨ i = 1 ∨ i = 2 ∨ i = 3 ∨ i = 4 ∨ i = 5 ∨ i = 6 ∨ i = 7 ∨ i = 8 by omega) with rfl | rfl | rfl | rfl | rfl | rfl | rfl | rfl | rfl <;> rfl
/-- the links of private members of a nest mate -/
def nestW : List Cond := [.fieldLinkNest RX2 83 "CableOffice$Route" "x" "[I" RX2, .fieldLinkNest RX2 86 "CableOffice$Route" "y" "[I" RX2, .fieldLinkNest RX2 52 "CableOffice$Route" "points" "I" RX2, .fieldLinkNest RX1 71 "CableOffice$Ground" "left" "I" RX2, .fieldLinkNest RX1 76 "CableOffice$Ground" "low" "I" RX2, .fieldLinkNest RX1 79 "CableOffice$Ground" "right" "I" RX2, .fieldLinkNest RX1 82 "CableOffice$Ground" "high" "I" RX2, .fieldLinkNest RX2 137 "CableOffice$Ground" "catches" "I" RX2, .fieldLinkNest RX2 142 "CableOffice$Ground" "catchSum" "I" RX2, .fieldLinkNest RX2 183 "CableOffice$Ground" "paidSum" "I" RX2,
  .methodLinkNest RX2 9 yX1_init RX2, .methodLinkNest RX2 47 yX0_init RX2, .methodLinkNest RX2 55 yX1_isAt RX2, .methodLinkNest RX2 66 yX1_add RX2, .methodLinkNest RX2 71 yX1_takeAllOf RX2, .methodLinkNest RX2 200 yX1_pieces RX2, .methodLinkNest RX2 215 yX1_pieceCrosses RX2, .methodLinkNest RX2 219 yX1_pieceIsSteepTo RX2, .methodLinkNest RX2 124 yX0_setBounds RX2, .methodLinkNest RX2 128 yX0_setMonths RX2, .methodLinkNest RX2 145 yX0_price RX2, .methodLinkNest RX2 148 yX0_isShutIn RX2, .methodLinkNest RX2 155 yX1_pieceMeets RX2]
theorem nest_warm {s U : State} (hW : s.WarmedH U.vm) (h : ∀ w ∈ nestW, va_Nw w s) : ∀ w ∈ nestW, va_Nw w U := by
  intro w hw
  have h1 := h w hw
  simp only [nestW, List.mem_cons, List.not_mem_nil, or_false] at hw
  rcases hw with rfl | rfl | rfl | rfl | rfl | rfl | rfl | rfl | rfl | rfl | rfl | rfl | rfl | rfl | rfl | rfl | rfl | rfl | rfl | rfl | rfl | rfl | rfl <;> first | exact va_Nw.warmF hW h1 | exact va_Nw.warmM hW h1
/-- the texts of the office's exceptions -/
def strW : List (Nat × String) := [(107, "the cables do not cross well, or have an agreement"), (115, "right is less than left, or high less than low"), (122, "there are 5 grounds"), (135, "the amount is out of range"), (140, "100 catches were told for the ground"), (177, "the repair is not possible, or 500 were made"), (186, "the place is out of range"), (188, "the month is out of range"), (192, "there is no such cable"), (198, "there is no such point"), (203, "there is no such piece"), (205, "there is no such ground"), (61, "the draft is full, or its last point is at this place"), (69, "the draft is too short, or there are 8 cables"), (81, "a neighbour of the point is at this place")]
def eI : String := "java/lang/IllegalStateException"
def eA : String := "java/lang/IllegalArgumentException"
def eX : String := "java/lang/IndexOutOfBoundsException"
def excN : List String := ["java/lang/RuntimeException", "java/lang/Exception"]
def excB (E : String) : List Cond := [.castable E E, .declares (Bundle.initS "java/lang/RuntimeException"), .declares (Bundle.initS "java/lang/Exception"), .declares (Bundle.initS Bundle.tN)]
def ExW (E : String) (U : State) : Prop := ∀ w ∈ excB E, va_Nw w U
theorem ExW.warm {E : String} {s U : State} (hW : s.WarmedH U.vm) (h : ExW E s) : ExW E U := by
  intro w hw
  have h1 := h w hw
  simp only [excB, List.mem_cons, List.not_mem_nil, or_false] at hw
  rcases hw with rfl | rfl | rfl | rfl
  · exact va_tabs rfl (rfl : (s.setVm U.vm).vm = U.vm) (by rw [Cond.castable_setVm hW.alike]; exact h1)
  all_goals exact va_Nw.warmD hW h1
def excW : List String := [eI, eA, eX]
def ncW : List (String × String) := [(eA, eX), (eI, eX), (eI, eA)]
def gF (x : Cx) : Nat → Prop := fun q => xB x ≤ q
def wAllN (N : Nat) (x : Cx) (M : Nat → Nat → Int32) : va_W := (List.range N).map fun id => (xa x id, sh x (M id) id)
theorem wAllN_at {N : Nat} {x : Cx} {M : Nat → Nat → Int32} {id : Nat} (h : id < N) : (wAllN N x M)[id]? = some (xa x id, sh x (M id) id) := by simp [wAllN, h]
theorem wAllN_len (N : Nat) (x : Cx) (M : Nat → Nat → Int32) : (wAllN N x M).length = N := by simp [wAllN]
theorem wAllN_set {N : Nat} {x : Cx} {M : Nat → Nat → Int32} {id : Nat} (h : id < N) (r : Nat → Int32) : (wAllN N x M).set id (xa x id, sh x r id) = wAllN N x (fun a => if a = id then r else M a) := by
  apply List.ext_getElem?
  intro j
  by_cases hj : j = id
  · subst hj
    rw [List.getElem?_set_self (by rw [wAllN_len]; exact h), wAllN_at h]
    simp
  · rw [List.getElem?_set_ne (Ne.symm hj)]
    by_cases hjN : j < N
    · rw [wAllN_at hjN, wAllN_at hjN]
      simp [hj]
    · rw [List.getElem?_eq_none (by rw [wAllN_len]; omega), List.getElem?_eq_none (by rw [wAllN_len]; omega)]
def wAll (x : Cx) (M : Nat → Nat → Int32) : va_W := wAllN 57 x M
theorem wAll_len (x : Cx) (M : Nat → Nat → Int32) : (wAll x M).length = 57 := wAllN_len 57 x M
theorem wAll_get {x : Cx} {M : Nat → Nat → Int32} {id : Nat} {e : va_E} (h : id < 57) (he : sh x (M id) id = e) : (wAll x M)[id]? = some (xa x id, e) := by
  subst he
  exact wAllN_at h
theorem wAll_set {x : Cx} {M : Nat → Nat → Int32} {id : Nat} {e : va_E} (h : id < 57) (r : Nat → Int32) (he : sh x r id = e) : (wAll x M).set id (xa x id, e) = wAll x (fun a => if a = id then r else M a) := by
  subst he
  exact wAllN_set h r
theorem wAll_lt {x : Cx} {M : Nat → Nat → Int32} {k : Nat} {q : Nat × va_E} (h : (wAll x M)[k]? = some q) : k < 57 := by
  have h1 := (List.getElem?_eq_some_iff.mp h).1
  rw [wAll_len] at h1
  exact h1
theorem wAll_up2 {x : Cx} {M : Nat → Nat → Int32} {id k : Nat} {v : Int32} {e : va_E} (h : id < 57) (he : sh x (upd (M id) k v) id = e) : (wAll x M).set id (xa x id, e) = wAll x (up2 M id k v) := wAll_set h _ he
/-- what doesn't speak of the heap -/
def GS (x : Cx) (U : State) : Prop := va_K (xD x) vwCl (xT x) U ∧ (∀ i j : Nat, i < 57 → j < 57 → xa x i = xa x j → i = j) ∧ (∀ i : Nat, i < 57 → xB x ≤ xa x i) ∧ xb x < xB x ∧ (∀ w ∈ nestW, va_Nw w U) ∧ (∀ t ∈ strW, vk_R RX2 t.1 t.2 (xs x t.1) U) ∧ (∀ E ∈ excW, ExW E U) ∧ (∀ q ∈ ncW, va_Nc q.1 q.2 U)
/-- what lies below the bound -/
def GZ (x : Cx) (U : State) (H : Heap) : Prop := vx_Zq Bundle.tN "UNASSIGNED_STACK" Bundle.steD (gF x) U H ∧ vx_Zq Bundle.tN "SUPPRESSED_SENTINEL" Bundle.listD (gF x) U H ∧ va_X (xb x) (xL x) (xX x) U H ∧ xB x ≤ H.size
def GH (x : Cx) (M : Nat → Nat → Int32) (U : State) (H : Heap) : Prop := va_P (xD x) vwCl (wAll x M) H ∧ GZ x U H
theorem GS.warm {x : Cx} {s U : State} (hW : s.WarmedH U.vm) (h : GS x s) : GS x U := by
  obtain ⟨h1, h2, h3, h4, h5, h6, h7, h8⟩ := h
  exact ⟨va_K.moved hW.alike h1, h2, h3, h4, nest_warm hW h5, fun t ht => vk_R.warm hW (h6 t ht), fun E hE => (h7 E hE).warm hW, fun q hq => (h8 q hq).moved hW.alike⟩
theorem GZ.moved {x : Cx} {u U : State} {H : Heap} (hvm : u.vm.Alike U.vm) (h : GZ x u H) : GZ x U H := ⟨vx_Zq.moved hvm h.1, vx_Zq.moved hvm h.2.1, va_X.moved hvm h.2.2.1, h.2.2.2⟩
theorem GZ.kept {x : Cx} {s : State} {H H1 : Heap} {locs : List Loc} (hb : xb x < xB x) (h : GZ x s H) (hV : va_S (gF x) H H1 locs) : GZ x s H1 := by
  obtain ⟨h1, h2, h3, h4⟩ := h
  exact ⟨vx_Zq.kept h1 hV.2.1, vx_Zq.kept h2 hV.2.1, va_X.kept h3 (hV.2.1 _ (Nat.lt_of_lt_of_le hb h4) (Nat.not_le.mpr hb)), Nat.le_trans h4 hV.1⟩
theorem GH.moved {x : Cx} {M : Nat → Nat → Int32} {u U : State} {H : Heap} (hvm : u.vm.Alike U.vm) (h : GH x M u H) : GH x M U H := ⟨h.1, h.2.moved hvm⟩
theorem GS.D {x : Cx} {s : State} (h : GS x s) (M : Nat → Nat → Int32) : va_D (gF x) (wAll x M) := by
  refine ⟨fun i j p q hi hj hpq => ?_, fun k q hk => ?_⟩
  · have li := wAll_lt hi
    have lj := wAll_lt hj
    rw [wAll_get li rfl] at hi
    rw [wAll_get lj rfl] at hj
    cases hi; cases hj
    exact h.2.1 i j li lj hpq
  · have lk := wAll_lt hk
    rw [wAll_get lk rfl] at hk
    cases hk
    exact h.2.2.1 k lk
/-- starts and ends of contracts -/
def gP (x : Cx) (M : Nat → Nat → Int32) (as : List Value) : Array Value → State → Prop := fun v U => v = as.toArray ∧ GS x U ∧ GH x M U U.heap
def gQ (x : Cx) (r : Option Value) (M : Nat → Nat → Int32) : Array Value → State → Outcome → State → Prop := fun _ st o t => o = .returned r ∧ (GH x M t t.heap) ∧ va_F (gF x) st t
theorem gP_blind (x : Cx) (M : Nat → Nat → Int32) (as : List Value) : FrameBlind (gP x M as) := fun a U g mk h => ⟨h.1, h.2.1.warm (State.WarmedH.refl U), h.2.2.moved (Vm.Alike.refl U.vm)⟩
