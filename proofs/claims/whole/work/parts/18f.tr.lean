/-! From the machine's ints to whole numbers. -/
def sm (z : Int) : Prop := -1000000 ≤ z ∧ z ≤ 1000000
theorem oi_int {z : Int} (h : sm z) : (Int32.ofInt z).toInt = z := Int32.toInt_ofInt_of_le (by have := h.1; omega) (by have := h.2; omega)
theorem oi_lt {u v : Int} (hu : sm u) (hv : sm v) : (Int32.ofInt u < Int32.ofInt v) ↔ u < v := by rw [Int32.lt_iff_toInt_lt, oi_int hu, oi_int hv]
theorem oi_le {u v : Int} (hu : sm u) (hv : sm v) : (Int32.ofInt u ≤ Int32.ofInt v) ↔ u ≤ v := by rw [Int32.le_iff_toInt_le, oi_int hu, oi_int hv]
theorem oi_eq {u v : Int} (hu : sm u) (hv : sm v) : (Int32.ofInt u = Int32.ofInt v) ↔ u = v := ⟨fun h => by rw [← oi_int hu, h, oi_int hv], fun h => by rw [h]⟩
def cof (v : Int32) : Prop := 0 ≤ v ∧ v ≤ 99
theorem cof_of {v : Int32} (h : cof v) : ∃ a : Int, v = Int32.ofInt a ∧ 0 ≤ a ∧ a ≤ 99 := by
  refine ⟨v.toInt, (Int32.ofInt_toInt v).symm, ?_, ?_⟩
  · exact Int32.le_iff_toInt_le.mp h.1
  · exact Int32.le_iff_toInt_le.mp h.2
theorem mn {a c : Int} (ha : sm a) (hc : sm c) : minI (Int32.ofInt a) (Int32.ofInt c) = Int32.ofInt (min a c) := by
  unfold minI
  simp only [oi_lt hc ha]
  split
  · congr 1; omega
  · congr 1; omega
theorem mx {a c : Int} (ha : sm a) (hc : sm c) : maxI (Int32.ofInt a) (Int32.ofInt c) = Int32.ofInt (max a c) := by
  unfold maxI
  simp only [oi_lt ha hc]
  split
  · congr 1; omega
  · congr 1; omega
theorem bnd {p q r s : Int} (hp : -99 ≤ p ∧ p ≤ 99) (hq : -99 ≤ q ∧ q ≤ 99) (hr : -99 ≤ r ∧ r ≤ 99) (hs : -99 ≤ s ∧ s ≤ 99) : sm (p * q - r * s) := by
  have key : ∀ p q : Int, -99 ≤ p ∧ p ≤ 99 → -99 ≤ q ∧ q ≤ 99 → -9801 ≤ p * q ∧ p * q ≤ 9801 := by
    intro p q hp hq
    have a1 := Int.mul_nonneg (show 0 ≤ 99 - p by omega) (show 0 ≤ 99 - q by omega)
    have a2 := Int.mul_nonneg (show 0 ≤ 99 + p by omega) (show 0 ≤ 99 + q by omega)
    have a3 := Int.mul_nonneg (show 0 ≤ 99 - p by omega) (show 0 ≤ 99 + q by omega)
    have a4 := Int.mul_nonneg (show 0 ≤ 99 + p by omega) (show 0 ≤ 99 - q by omega)
    constructor <;> grind
  have b1 := key p q hp hq
  have b2 := key r s hr hs
  unfold sm; omega
theorem bnd2 {p q r s : Int} (hp : -99 ≤ p ∧ p ≤ 99) (hq : -99 ≤ q ∧ q ≤ 99) (hr : -99 ≤ r ∧ r ≤ 99) (hs : -99 ≤ s ∧ s ≤ 99) : sm (p * q + r * s) := by
  have := bnd (r := -r) hp hq (by omega) hs
  rw [show p * q + r * s = p * q - -r * s by grind]
  exact this
theorem sm0 : sm 0 := by unfold sm; omega
theorem smc {a : Int} (h : 0 ≤ a ∧ a ≤ 99) : sm a := by unfold sm; omega
def sI (a b c d x y : Int) : Int := (c - a) * (y - b) - (d - b) * (x - a)
theorem sI_sm {a b c d x y : Int} (ha : 0 ≤ a ∧ a ≤ 99) (hb : 0 ≤ b ∧ b ≤ 99) (hc : 0 ≤ c ∧ c ≤ 99) (hd : 0 ≤ d ∧ d ≤ 99) (hx : 0 ≤ x ∧ x ≤ 99) (hy : 0 ≤ y ∧ y ≤ 99) : sm (sI a b c d x y) := bnd (by omega) (by omega) (by omega) (by omega)
theorem side_oi (a b c d x y : Int) : (Int32.ofInt c - Int32.ofInt a) * (Int32.ofInt y - Int32.ofInt b) - (Int32.ofInt d - Int32.ofInt b) * (Int32.ofInt x - Int32.ofInt a) = Int32.ofInt (sI a b c d x y) := by
  unfold sI
  rw [Int32.ofInt_sub, Int32.ofInt_mul, Int32.ofInt_mul, Int32.ofInt_sub, Int32.ofInt_sub, Int32.ofInt_sub, Int32.ofInt_sub]
theorem oi_0 : (0 : Int32) = Int32.ofInt 0 := rfl
theorem div_nsd {s t : Int} (hs : sm s) (ht : sm t) : ((!decide (0 < minI (Int32.ofInt s) (Int32.ofInt t)) && !decide (maxI (Int32.ofInt s) (Int32.ofInt t) < 0)) = true) ↔ nsd s t := by
  have h1 : sm (min s t) := by unfold sm at *; omega
  have h2 : sm (max s t) := by unfold sm at *; omega
  rw [mn hs ht, mx hs ht, oi_0]
  simp only [Bool.and_eq_true, Bool.not_eq_true', decide_eq_false_iff_not, oi_lt sm0 h1, oi_lt h2 sm0]
  unfold nsd
  omega
theorem sgn_0 {s : Int} (hs : sm s) : (sgn (Int32.ofInt s) = 0) ↔ s = 0 := by
  unfold sgn
  rw [oi_0]
  simp only [oi_le hs sm0, oi_le sm0 hs]
  by_cases h : s ≤ 0
  · rw [if_pos h]
    by_cases h2 : 0 ≤ s
    · rw [if_pos h2]; exact ⟨fun _ => by omega, fun _ => rfl⟩
    · rw [if_neg h2]; exact ⟨fun z => absurd z (by decide), fun z => by omega⟩
  · rw [if_neg h]; exact ⟨fun z => absurd z (by decide), fun z => by omega⟩
theorem sgn_opp {s t : Int} (hs : sm s) (ht : sm t) : (¬ 0 ≤ sgn (Int32.ofInt s) * sgn (Int32.ofInt t)) ↔ opp s t := by
  have key : ∀ s : Int, sm s → (s < 0 ∧ sgn (Int32.ofInt s) = -1) ∨ (s = 0 ∧ sgn (Int32.ofInt s) = 0) ∨ (0 < s ∧ sgn (Int32.ofInt s) = 1) := by
    intro s hs
    unfold sgn
    rw [oi_0]
    simp only [oi_le hs sm0, oi_le sm0 hs]
    by_cases h : s ≤ 0
    · rw [if_pos h]
      by_cases h2 : 0 ≤ s
      · rw [if_pos h2]; exact Or.inr (Or.inl ⟨by omega, rfl⟩)
      · rw [if_neg h2]; exact Or.inl ⟨by omega, rfl⟩
    · rw [if_neg h]; exact Or.inr (Or.inr ⟨by omega, rfl⟩)
  unfold opp
  rcases key s hs with ⟨a, e⟩ | ⟨a, e⟩ | ⟨a, e⟩ <;> rcases key t ht with ⟨b, f⟩ | ⟨b, f⟩ | ⟨b, f⟩ <;> rw [e, f]
  · exact ⟨fun z => absurd (by decide) z, fun z => by omega⟩
  · exact ⟨fun z => absurd (by decide) z, fun z => by omega⟩
  · exact ⟨fun _ => by omega, fun _ => by decide⟩
  · exact ⟨fun z => absurd (by decide) z, fun z => by omega⟩
  · exact ⟨fun z => absurd (by decide) z, fun z => by omega⟩
  · exact ⟨fun z => absurd (by decide) z, fun z => by omega⟩
  · exact ⟨fun _ => by omega, fun _ => by decide⟩
  · exact ⟨fun z => absurd (by decide) z, fun z => by omega⟩
  · exact ⟨fun z => absurd (by decide) z, fun z => by omega⟩
theorem bx_bt {a c x : Int} (ha : sm a) (hc : sm c) (hx : sm x) : (bxM (Int32.ofInt a) (Int32.ofInt c) (Int32.ofInt x) = true) ↔ bt a c x := by
  unfold bxM bt inI
  simp only [oi_lt hc ha]
  split <;> simp only [Bool.and_eq_true, Bool.not_eq_true', decide_eq_false_iff_not, oi_lt hx hc, oi_lt ha hx, oi_lt hx ha, oi_lt hc hx] <;> omega
theorem bt_tr {z u w k : Int} : bt (z - k) (u - k) (w - k) ↔ bt z u w := by unfold bt; omega
/-- the model's meeting, in whole numbers -/
theorem me_iff {a b c d x y t z : Int} (ha : 0 ≤ a ∧ a ≤ 99) (hb : 0 ≤ b ∧ b ≤ 99) (hc : 0 ≤ c ∧ c ≤ 99) (hd : 0 ≤ d ∧ d ≤ 99) (hx : 0 ≤ x ∧ x ≤ 99) (hy : 0 ≤ y ∧ y ≤ 99) (ht : 0 ≤ t ∧ t ≤ 99) (hz : 0 ≤ z ∧ z ≤ 99) :
    (meM (Int32.ofInt a) (Int32.ofInt b) (Int32.ofInt c) (Int32.ofInt d) (Int32.ofInt x) (Int32.ofInt y) (Int32.ofInt t) (Int32.ofInt z) = true) ↔ ME (c - a) (d - b) (t - x) (z - y) (x - a) (y - b) (sI a b c d x y) (sI a b c d t z) (sI x y t z a b) (sI x y t z c d) := by
  have s1 := sI_sm ha hb hc hd hx hy
  have s2 := sI_sm ha hb hc hd ht hz
  have s3 := sI_sm hx hy ht hz ha hb
  have s4 := sI_sm hx hy ht hz hc hd
  unfold meM on1M btM sgM
  simp only [side_oi, Bool.or_eq_true, Bool.and_eq_true, decide_eq_true_eq, Bool.not_eq_true', decide_eq_false_iff_not, sgn_0 s1, sgn_0 s2, sgn_0 s3, sgn_0 s4, sgn_opp s1 s2, sgn_opp s3 s4, bx_bt (smc ha) (smc hc) (smc hx), bx_bt (smc hb) (smc hd) (smc hy), bx_bt (smc ha) (smc hc) (smc ht), bx_bt (smc hb) (smc hd) (smc hz), bx_bt (smc hx) (smc ht) (smc ha), bx_bt (smc hy) (smc hz) (smc hb), bx_bt (smc hx) (smc ht) (smc hc), bx_bt (smc hy) (smc hz) (smc hd)]
  have f1 : bt 0 (c - a) (x - a) ↔ bt a c x := by unfold bt; omega
  have f2 : bt 0 (d - b) (y - b) ↔ bt b d y := by unfold bt; omega
  have f3 : bt 0 (c - a) (x - a + (t - x)) ↔ bt a c t := by unfold bt; omega
  have f4 : bt 0 (d - b) (y - b + (z - y)) ↔ bt b d z := by unfold bt; omega
  have f5 : bt (x - a) (x - a + (t - x)) 0 ↔ bt x t a := by unfold bt; omega
  have f6 : bt (y - b) (y - b + (z - y)) 0 ↔ bt y z b := by unfold bt; omega
  have f7 : bt (x - a) (x - a + (t - x)) (c - a) ↔ bt x t c := by unfold bt; omega
  have f8 : bt (y - b) (y - b + (z - y)) (d - b) ↔ bt y z d := by unfold bt; omega
  unfold ME
  rw [f1, f2, f3, f4, f5, f6, f7, f8]
  constructor
  · rintro ((h | h) | (h | h) | h)
    · exact Or.inl h
    · exact Or.inr (Or.inl h)
    · exact Or.inr (Or.inr (Or.inl h))
    · exact Or.inr (Or.inr (Or.inr (Or.inl h)))
    · exact Or.inr (Or.inr (Or.inr (Or.inr h)))
  · rintro (h | h | h | h | h)
    · exact Or.inl (Or.inl h)
    · exact Or.inl (Or.inr h)
    · exact Or.inr (Or.inl (Or.inl h))
    · exact Or.inr (Or.inl (Or.inr h))
    · exact Or.inr (Or.inr h)
theorem rs_of (a b c d x y t z : Int) : Rs (c - a) (d - b) (t - x) (z - y) (x - a) (y - b) (sI a b c d x y) (sI a b c d t z) (sI x y t z a b) (sI x y t z c d) := by
  unfold Rs sI
  exact ⟨by grind, by grind, by grind, by grind⟩
/-- the office's crossing, in whole numbers -/
theorem cr_iff {X Y X2 Y2 : Nat → Int32} {p k : Nat} {a b c d x y t z : Int} (ea : X p = Int32.ofInt a) (eb : Y p = Int32.ofInt b) (ec : X (p + 1) = Int32.ofInt c) (ed : Y (p + 1) = Int32.ofInt d) (ex : X2 k = Int32.ofInt x) (ey : Y2 k = Int32.ofInt y) (et : X2 (k + 1) = Int32.ofInt t) (ez : Y2 (k + 1) = Int32.ofInt z)
    (ha : 0 ≤ a ∧ a ≤ 99) (hb : 0 ≤ b ∧ b ≤ 99) (hc : 0 ≤ c ∧ c ≤ 99) (hd : 0 ≤ d ∧ d ≤ 99) (hx : 0 ≤ x ∧ x ≤ 99) (hy : 0 ≤ y ∧ y ≤ 99) (ht : 0 ≤ t ∧ t ≤ 99) (hz : 0 ≤ z ∧ z ≤ 99) :
    (crO X Y p X2 Y2 k = true) ↔ CR (c - a) (d - b) (t - x) (z - y) (x - a) (y - b) (sI a b c d x y) (sI a b c d t z) (sI x y t z a b) (sI x y t z c d) := by
  have s1 := sI_sm ha hb hc hd hx hy
  have s2 := sI_sm ha hb hc hd ht hz
  have s3 := sI_sm hx hy ht hz ha hb
  have s4 := sI_sm hx hy ht hz hc hd
  have d1 := div_nsd s1 s2
  have d2 := div_nsd s3 s4
  have hm : ∀ {u v : Int}, (0 ≤ u ∧ u ≤ 99) → (0 ≤ v ∧ v ≤ 99) → sm (min u v) ∧ sm (max u v) := by intro u v hu hv; unfold sm; omega
  unfold crO divO boxO sideO wd loO hiO
  rw [ea, eb, ec, ed, ex, ey, et, ez]
  simp only [side_oi]
  have key : ∀ A B C : Bool, ((A && (B && C)) = true) ↔ (A = true ∧ B = true ∧ C = true) := by intro A B C; simp
  rw [key, d1, d2, mn (smc ha) (smc hc), mn (smc hb) (smc hd), mn (smc hx) (smc ht), mn (smc hy) (smc hz), mx (smc ha) (smc hc), mx (smc hb) (smc hd), mx (smc hx) (smc ht), mx (smc hy) (smc hz)]
  simp only [Bool.and_eq_true, Bool.not_eq_true', decide_eq_false_iff_not, oi_lt (hm hx ht).2 (hm ha hc).1, oi_lt (hm ha hc).2 (hm hx ht).1, oi_lt (hm hy hz).2 (hm hb hd).1, oi_lt (hm hb hd).2 (hm hy hz).1]
  unfold CR
  have o1 : (¬ max x t < min a c ∧ ¬ max a c < min x t) ↔ ov (c - a) (t - x) (x - a) := by unfold ov; omega
  have o2 : (¬ max y z < min b d ∧ ¬ max b d < min y z) ↔ ov (d - b) (z - y) (y - b) := by unfold ov; omega
  rw [← o1, ← o2]
  constructor
  · rintro ⟨⟨p1, p2, p3, p4⟩, p5, p6⟩; exact ⟨⟨p1, p2⟩, ⟨p3, p4⟩, p5, p6⟩
  · rintro ⟨⟨p1, p2⟩, ⟨p3, p4⟩, p5, p6⟩; exact ⟨⟨p1, p2, p3, p4⟩, p5, p6⟩
/-- one answer -/
theorem cr_cd {X Y X2 Y2 A B : Nat → Int32} {p k q r : Nat} (e1 : X p = A q) (e2 : X (p + 1) = A (q + 1)) (e3 : Y p = B q) (e4 : Y (p + 1) = B (q + 1)) (e5 : X2 k = A r) (e6 : X2 (k + 1) = A (r + 1)) (e7 : Y2 k = B r) (e8 : Y2 (k + 1) = B (r + 1))
    (c1 : cof (A q)) (c2 : cof (A (q + 1))) (c3 : cof (B q)) (c4 : cof (B (q + 1))) (c5 : cof (A r)) (c6 : cof (A (r + 1))) (c7 : cof (B r)) (c8 : cof (B (r + 1))) : crO X Y p X2 Y2 k = cdM A B q r := by
  obtain ⟨a, ea, ha⟩ := cof_of c1
  obtain ⟨c, ec, hc⟩ := cof_of c2
  obtain ⟨b, eb, hb⟩ := cof_of c3
  obtain ⟨d, ed, hd⟩ := cof_of c4
  obtain ⟨x, ex, hx⟩ := cof_of c5
  obtain ⟨t, et, ht⟩ := cof_of c6
  obtain ⟨y, ey, hy⟩ := cof_of c7
  obtain ⟨z, ez, hz⟩ := cof_of c8
  have h1 := cr_iff (e1.trans ea) (e3.trans eb) (e2.trans ec) (e4.trans ed) (e5.trans ex) (e7.trans ey) (e6.trans et) (e8.trans ez) ha hb hc hd hx hy ht hz
  have h2 := me_iff ha hb hc hd hx hy ht hz
  unfold cdM
  rw [ea, eb, ec, ed, ex, ey, et, ez]
  exact Bool.eq_iff_iff.mpr (h1.trans ((seg_iff (rs_of a b c d x y t z)).trans h2.symm))
theorem cd_comm {A B : Nat → Int32} {q r : Nat} (c1 : cof (A q)) (c2 : cof (A (q + 1))) (c3 : cof (B q)) (c4 : cof (B (q + 1))) (c5 : cof (A r)) (c6 : cof (A (r + 1))) (c7 : cof (B r)) (c8 : cof (B (r + 1))) : cdM A B q r = cdM A B r q := by
  obtain ⟨a, ea, ha⟩ := cof_of c1
  obtain ⟨c, ec, hc⟩ := cof_of c2
  obtain ⟨b, eb, hb⟩ := cof_of c3
  obtain ⟨d, ed, hd⟩ := cof_of c4
  obtain ⟨x, ex, hx⟩ := cof_of c5
  obtain ⟨t, et, ht⟩ := cof_of c6
  obtain ⟨y, ey, hy⟩ := cof_of c7
  obtain ⟨z, ez, hz⟩ := cof_of c8
  have h1 := me_iff ha hb hc hd hx hy ht hz
  have h2 := me_iff hx hy ht hz ha hb hc hd
  have r1 := seg_iff (rs_of a b c d x y t z)
  have r2 := seg_iff (rs_of x y t z a b c d)
  have hs := CR_swap (u1 := c - a) (u2 := d - b) (v1 := t - x) (v2 := z - y) (w1 := x - a) (w2 := y - b) (S1 := sI a b c d x y) (S2 := sI a b c d t z) (S3 := sI x y t z a b) (S4 := sI x y t z c d)
  rw [show -(x - a) = a - x by omega, show -(y - b) = b - y by omega] at hs
  unfold cdM
  rw [ea, eb, ec, ed, ex, ey, et, ez]
  exact Bool.eq_iff_iff.mpr (h1.trans (r1.symm.trans (hs.symm.trans (r2.trans h2.symm))))
theorem absN_oi {s : Int} (hs : sm s) : absN (Int32.ofInt s) = Int32.ofInt (if 0 ≤ s then s else -s) := by
  unfold absN
  rw [oi_0]
  simp only [oi_le sm0 hs]
  split
  · rfl
  · rw [Int32.ofInt_neg]
theorem st_comm {A B : Nat → Int32} {q r : Nat} (c1 : cof (A q)) (c2 : cof (A (q + 1))) (c3 : cof (B q)) (c4 : cof (B (q + 1))) (c5 : cof (A r)) (c6 : cof (A (r + 1))) (c7 : cof (B r)) (c8 : cof (B (r + 1))) : stM A B q r = stM A B r q := by
  obtain ⟨a, ea, ha⟩ := cof_of c1
  obtain ⟨c, ec, hc⟩ := cof_of c2
  obtain ⟨b, eb, hb⟩ := cof_of c3
  obtain ⟨d, ed, hd⟩ := cof_of c4
  obtain ⟨x, ex, hx⟩ := cof_of c5
  obtain ⟨t, et, ht⟩ := cof_of c6
  obtain ⟨y, ey, hy⟩ := cof_of c7
  obtain ⟨z, ez, hz⟩ := cof_of c8
  unfold stM
  rw [ea, eb, ec, ed, ex, ey, et, ez]
  have k1 := bnd (p := c - a) (q := z - y) (r := d - b) (s := t - x) (by omega) (by omega) (by omega) (by omega)
  have k2 := bnd (p := t - x) (q := d - b) (r := z - y) (s := c - a) (by omega) (by omega) (by omega) (by omega)
  have e1 : (Int32.ofInt c - Int32.ofInt a) * (Int32.ofInt z - Int32.ofInt y) - (Int32.ofInt d - Int32.ofInt b) * (Int32.ofInt t - Int32.ofInt x) = Int32.ofInt ((c - a) * (z - y) - (d - b) * (t - x)) := by
    rw [Int32.ofInt_sub, Int32.ofInt_mul, Int32.ofInt_mul, Int32.ofInt_sub, Int32.ofInt_sub, Int32.ofInt_sub, Int32.ofInt_sub]
  have e2 : (Int32.ofInt t - Int32.ofInt x) * (Int32.ofInt d - Int32.ofInt b) - (Int32.ofInt z - Int32.ofInt y) * (Int32.ofInt c - Int32.ofInt a) = Int32.ofInt ((t - x) * (d - b) - (z - y) * (c - a)) := by
    rw [Int32.ofInt_sub, Int32.ofInt_mul, Int32.ofInt_mul, Int32.ofInt_sub, Int32.ofInt_sub, Int32.ofInt_sub, Int32.ofInt_sub]
  rw [e1, e2, absN_oi k1, absN_oi k2]
  have e3 : (t - x) * (d - b) - (z - y) * (c - a) = -((c - a) * (z - y) - (d - b) * (t - x)) := by grind
  have e4 : (if 0 ≤ (t - x) * (d - b) - (z - y) * (c - a) then (t - x) * (d - b) - (z - y) * (c - a) else -((t - x) * (d - b) - (z - y) * (c - a))) = (if 0 ≤ (c - a) * (z - y) - (d - b) * (t - x) then (c - a) * (z - y) - (d - b) * (t - x) else -((c - a) * (z - y) - (d - b) * (t - x))) := by
    rw [e3]
    generalize (c - a) * (z - y) - (d - b) * (t - x) = s
    split <;> split <;> omega
  rw [e4]
  have e5 : (Int32.ofInt t - Int32.ofInt x) * (Int32.ofInt c - Int32.ofInt a) + (Int32.ofInt z - Int32.ofInt y) * (Int32.ofInt d - Int32.ofInt b) = (Int32.ofInt c - Int32.ofInt a) * (Int32.ofInt t - Int32.ofInt x) + (Int32.ofInt d - Int32.ofInt b) * (Int32.ofInt z - Int32.ofInt y) := by
    rw [Int32.mul_comm (Int32.ofInt t - Int32.ofInt x), Int32.mul_comm (Int32.ofInt z - Int32.ofInt y)]
  rw [e5]
theorem absI_N (v : Int32) : absI v = absN v := by unfold absI absN; rw [Int32.zero_sub]
theorem sto_stm {X Y X2 Y2 A B : Nat → Int32} {p k q r : Nat} (e1 : X p = A q) (e2 : X (p + 1) = A (q + 1)) (e3 : Y p = B q) (e4 : Y (p + 1) = B (q + 1)) (e5 : X2 k = A r) (e6 : X2 (k + 1) = A (r + 1)) (e7 : Y2 k = B r) (e8 : Y2 (k + 1) = B (r + 1)) : stO X Y p X2 Y2 k = stM A B q r := by
  unfold stO stM wd
  rw [e1, e2, e3, e4, e5, e6, e7, e8, absI_N, absI_N]
