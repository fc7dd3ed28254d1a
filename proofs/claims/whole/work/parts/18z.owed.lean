/-! What is owed of the pure part. -/
theorem st_draft {M : Nat → Nat → Int32} {cn gn dn : Nat} {pn : Nat → Nat} (h : Inv M cn gn dn pn) (px py : Int32) : St_draft M cn gn dn pn px py := by
  sorry
theorem st_lay {M : Nat → Nat → Int32} {cn gn dn : Nat} {pn : Nat → Nat} (h : Inv M cn gn dn pn)  : St_lay M cn gn dn pn  := by
  sorry
theorem st_move {M : Nat → Nat → Int32} {cn gn dn : Nat} {pn : Nat → Nat} (h : Inv M cn gn dn pn) (a q px py : Int32) : St_move M cn gn dn pn a q px py := by
  sorry
theorem st_cables {M : Nat → Nat → Int32} {cn gn dn : Nat} {pn : Nat → Nat} (h : Inv M cn gn dn pn)  : St_cables M cn gn dn pn  := by
  sorry
theorem st_point {M : Nat → Nat → Int32} {cn gn dn : Nat} {pn : Nat → Nat} (h : Inv M cn gn dn pn) (a q : Int32) : St_point M cn gn dn pn a q := by
  sorry
theorem st_crossings {M : Nat → Nat → Int32} {cn gn dn : Nat} {pn : Nat → Nat} (h : Inv M cn gn dn pn) (a b : Int32) : St_crossings M cn gn dn pn a b := by
  sorry
theorem st_crossingsAnew {M : Nat → Nat → Int32} {cn gn dn : Nat} {pn : Nat → Nat} (h : Inv M cn gn dn pn) (a b : Int32) : St_crossingsAnew M cn gn dn pn a b := by
  sorry
theorem st_isWell {M : Nat → Nat → Int32} {cn gn dn : Nat} {pn : Nat → Nat} (h : Inv M cn gn dn pn) (a b : Int32) : St_isWell M cn gn dn pn a b := by
  sorry
theorem st_agree {M : Nat → Nat → Int32} {cn gn dn : Nat} {pn : Nat → Nat} (h : Inv M cn gn dn pn) (a b : Int32) : St_agree M cn gn dn pn a b := by
  sorry
theorem st_isAgreed {M : Nat → Nat → Int32} {cn gn dn : Nat} {pn : Nat → Nat} (h : Inv M cn gn dn pn) (a b : Int32) : St_isAgreed M cn gn dn pn a b := by
  sorry
theorem st_bare {M : Nat → Nat → Int32} {cn gn dn : Nat} {pn : Nat → Nat} (h : Inv M cn gn dn pn)  : St_bare M cn gn dn pn  := by
  sorry
theorem st_ground {M : Nat → Nat → Int32} {cn gn dn : Nat} {pn : Nat → Nat} (h : Inv M cn gn dn pn) (le lo ri hh fr to : Int32) : St_ground M cn gn dn pn le lo ri hh fr to := by
  sorry
theorem st_tell {M : Nat → Nat → Int32} {cn gn dn : Nat} {pn : Nat → Nat} (h : Inv M cn gn dn pn) (g am : Int32) : St_tell M cn gn dn pn g am := by
  sorry
theorem st_isClosed {M : Nat → Nat → Int32} {cn gn dn : Nat} {pn : Nat → Nat} (h : Inv M cn gn dn pn) (g mo : Int32) : St_isClosed M cn gn dn pn g mo := by
  sorry
theorem st_touches {M : Nat → Nat → Int32} {cn gn dn : Nat} {pn : Nat → Nat} (h : Inv M cn gn dn pn) (a q g : Int32) : St_touches M cn gn dn pn a q g := by
  sorry
theorem st_lifted {M : Nat → Nat → Int32} {cn gn dn : Nat} {pn : Nat → Nat} (h : Inv M cn gn dn pn) (a q : Int32) : St_lifted M cn gn dn pn a q := by
  sorry
theorem st_cost {M : Nat → Nat → Int32} {cn gn dn : Nat} {pn : Nat → Nat} (h : Inv M cn gn dn pn) (a q mo : Int32) : St_cost M cn gn dn pn a q mo := by
  sorry
theorem st_repair {M : Nat → Nat → Int32} {cn gn dn : Nat} {pn : Nat → Nat} (h : Inv M cn gn dn pn) (a q mo : Int32) : St_repair M cn gn dn pn a q mo := by
  sorry
theorem st_paid {M : Nat → Nat → Int32} {cn gn dn : Nat} {pn : Nat → Nat} (h : Inv M cn gn dn pn) (g : Int32) : St_paid M cn gn dn pn g := by
  sorry
theorem st_0 : Inv (fun _ _ => 0) 0 0 0 (fun _ => 0) := by
  sorry
