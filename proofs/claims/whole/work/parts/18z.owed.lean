/-! What is owed of the pure part. -/
theorem st_lifted {M : Nat → Nat → Int32} {cn gn dn : Nat} {pn : Nat → Nat} (h : Inv M cn gn dn pn) (a q : Int32) : St_lifted M cn gn dn pn a q := by
  sorry
theorem st_cost {M : Nat → Nat → Int32} {cn gn dn : Nat} {pn : Nat → Nat} (h : Inv M cn gn dn pn) (a q mo : Int32) : St_cost M cn gn dn pn a q mo := by
  sorry
theorem st_repair {M : Nat → Nat → Int32} {cn gn dn : Nat} {pn : Nat → Nat} (h : Inv M cn gn dn pn) (a q mo : Int32) : St_repair M cn gn dn pn a q mo := by
  sorry
