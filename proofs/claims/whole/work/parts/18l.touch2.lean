/-! A piece and a ground: the office's answer is the model's. -/
theorem nsd_prod {k p q : Int} (hk : 0 ≤ k) (h : (p ≤ 0 ∧ 0 ≤ q) ∨ (0 ≤ p ∧ q ≤ 0)) : nsd (k * p) (k * q) := by
  rcases h with ⟨x, y⟩ | ⟨x, y⟩
  · have a := Int.mul_nonneg hk (show 0 ≤ -p by omega)
    have b := Int.mul_nonneg hk y
    rw [Int.mul_neg] at a
    exact ⟨fun z => by omega, fun z => by omega⟩
  · have a := Int.mul_nonneg hk x
    have b := Int.mul_nonneg hk (show 0 ≤ -q by omega)
    rw [Int.mul_neg] at b
    exact ⟨fun z => by omega, fun z => by omega⟩
theorem edgeH {a b c d l r y : Int} (hlr : l ≤ r) : CR (c - a) (d - b) (r - l) (y - y) (l - a) (y - b) (sI a b c d l y) (sI a b c d r y) (sI l y r y a b) (sI l y r y c d) ↔ (ox a c l r ∧ bt b d y ∧ nsd (sI a b c d l y) (sI a b c d r y)) := by
  have o1 : ov (c - a) (r - l) (l - a) ↔ ox a c l r := by unfold ov ox; omega
  have o2 : ov (d - b) (y - y) (y - b) ↔ bt b d y := by unfold ov bt; omega
  unfold CR
  rw [o1, o2]
  constructor
  · rintro ⟨p, q, n, _⟩; exact ⟨p, q, n⟩
  · rintro ⟨p, q, n⟩
    refine ⟨p, q, n, ?_⟩
    have e3 : sI l y r y a b = (r - l) * (b - y) := by unfold sI; grind
    have e4 : sI l y r y c d = (r - l) * (d - y) := by unfold sI; grind
    rw [e3, e4]
    exact nsd_prod (by omega) (by unfold bt at q; omega)
theorem edgeV {a b c d x lo h : Int} (hlh : lo ≤ h) : CR (c - a) (d - b) (x - x) (h - lo) (x - a) (lo - b) (sI a b c d x lo) (sI a b c d x h) (sI x lo x h a b) (sI x lo x h c d) ↔ (ox b d lo h ∧ bt a c x ∧ nsd (sI a b c d x lo) (sI a b c d x h)) := by
  have o1 : ov (c - a) (x - x) (x - a) ↔ bt a c x := by unfold ov bt; omega
  have o2 : ov (d - b) (h - lo) (lo - b) ↔ ox b d lo h := by unfold ov ox; omega
  unfold CR
  rw [o1, o2]
  constructor
  · rintro ⟨p, q, n, _⟩; exact ⟨q, p, n⟩
  · rintro ⟨q, p, n⟩
    refine ⟨p, q, n, ?_⟩
    have e3 : sI x lo x h a b = (h - lo) * (x - a) := by unfold sI; grind
    have e4 : sI x lo x h c d = (h - lo) * (x - c) := by unfold sI; grind
    rw [e3, e4]
    exact nsd_prod (by omega) (by unfold bt at p; omega)
theorem mt_to {X Y : Nat → Int32} {M : Nat → Nat → Int32} {p q g : Nat} (e1 : X p = M 42 q) (e2 : X (p + 1) = M 42 (q + 1)) (e3 : Y p = M 43 q) (e4 : Y (p + 1) = M 43 (q + 1)) (c1 : cof (M 42 q)) (c2 : cof (M 42 (q + 1))) (c3 : cof (M 43 q)) (c4 : cof (M 43 (q + 1)))
    (g1 : cof (M 45 g)) (g2 : cof (M 46 g)) (g3 : cof (M 47 g)) (g4 : cof (M 48 g)) (hl : M 45 g ≤ M 47 g) (hh : M 46 g ≤ M 48 g) : mtO X Y p (M 45 g) (M 46 g) (M 47 g) (M 48 g) = toM M q g := by
  obtain ⟨a, ea, ha⟩ := cof_of c1
  obtain ⟨c, ec, hc⟩ := cof_of c2
  obtain ⟨b, eb, hb⟩ := cof_of c3
  obtain ⟨d, ed, hd⟩ := cof_of c4
  obtain ⟨l, el, hl1⟩ := cof_of g1
  obtain ⟨lo, elo, hlo1⟩ := cof_of g2
  obtain ⟨r, er, hr1⟩ := cof_of g3
  obtain ⟨h, eh, hh1⟩ := cof_of g4
  have hlr : l ≤ r := by rw [el, er] at hl; exact (oi_le (smc hl1) (smc hr1)).mp hl
  have hlh : lo ≤ h := by rw [elo, eh] at hh; exact (oi_le (smc hlo1) (smc hh1)).mp hh
  have s1 := sI_sm ha hb hc hd hl1 hlo1
  have s2 := sI_sm ha hb hc hd hr1 hlo1
  have s3 := sI_sm ha hb hc hd hl1 hh1
  have s4 := sI_sm ha hb hc hd hr1 hh1
  have hm : ∀ {u v : Int}, sm u → sm v → sm (min u v) ∧ sm (max u v) := by intro u v hu hv; unfold sm at *; omega
  have R := rect_iff (a := a) (b := b) (c := c) (d := d) (l := l) (lo := lo) (r := r) (h := h) (s1 := sI a b c d l lo) (s2 := sI a b c d r lo) (s3 := sI a b c d l h) (s4 := sI a b c d r h) hlr hlh rfl (by unfold sI; grind) (by unfold sI; grind) (by unfold sI; grind)
  refine Bool.eq_iff_iff.mpr (Iff.trans ?_ (R.trans ?_))
  · unfold mtO boxO lmO sideO wd loO hiO
    rw [e1, e2, e3, e4, ea, eb, ec, ed, el, elo, er, eh]
    simp only [side_oi]
    rw [mn (smc ha) (smc hc), mn (smc hb) (smc hd), mx (smc ha) (smc hc), mx (smc hb) (smc hd), mn s1 s2, mn s3 s4, mx s1 s2, mx s3 s4, mn (hm s1 s2).1 (hm s3 s4).1, mx (hm s1 s2).2 (hm s3 s4).2, oi_0]
    simp only [Bool.and_eq_true, Bool.not_eq_true', decide_eq_false_iff_not, oi_lt (smc hr1) (hm (smc ha) (smc hc)).1, oi_lt (hm (smc ha) (smc hc)).2 (smc hl1), oi_lt (smc hh1) (hm (smc hb) (smc hd)).1, oi_lt (hm (smc hb) (smc hd)).2 (smc hlo1), oi_lt sm0 (hm (hm s1 s2).1 (hm s3 s4).1).1, oi_lt (hm (hm s1 s2).2 (hm s3 s4).2).2 sm0]
    have o1 : (¬ r < min a c ∧ ¬ max a c < l) ↔ ox a c l r := by unfold ox; omega
    have o2 : (¬ h < min b d ∧ ¬ max b d < lo) ↔ ox b d lo h := by unfold ox; omega
    have o3 : (¬ 0 < min (min (sI a b c d l lo) (sI a b c d r lo)) (min (sI a b c d l h) (sI a b c d r h)) ∧ ¬ max (max (sI a b c d l lo) (sI a b c d r lo)) (max (sI a b c d l h) (sI a b c d r h)) < 0) ↔ n4 (sI a b c d l lo) (sI a b c d r lo) (sI a b c d l h) (sI a b c d r h) := by
      generalize sI a b c d l lo = t1
      generalize sI a b c d r lo = t2
      generalize sI a b c d l h = t3
      generalize sI a b c d r h = t4
      unfold n4; omega
    rw [← o1, ← o2, ← o3]
    constructor
    · rintro ⟨⟨x1, x2, x3, x4⟩, x5⟩; exact ⟨⟨x1, x2⟩, ⟨x3, x4⟩, x5⟩
    · rintro ⟨⟨x1, x2⟩, ⟨x3, x4⟩, x5⟩; exact ⟨⟨x1, x2, x3, x4⟩, x5⟩
  · unfold toM
    rw [ea, eb, ec, ed, el, elo, er, eh]
    simp only [Bool.or_eq_true, Bool.and_eq_true, inI_true, me_iff ha hb hc hd hl1 hlo1 hr1 hlo1, me_iff ha hb hc hd hl1 hh1 hr1 hh1, me_iff ha hb hc hd hl1 hlo1 hl1 hh1, me_iff ha hb hc hd hr1 hlo1 hr1 hh1, ← seg_iff (rs_of a b c d l lo r lo), ← seg_iff (rs_of a b c d l h r h), ← seg_iff (rs_of a b c d l lo l h), ← seg_iff (rs_of a b c d r lo r h), edgeH hlr, edgeV hlh, oi_lt (smc ha) (smc hl1), oi_lt (smc hr1) (smc ha), oi_lt (smc hb) (smc hlo1), oi_lt (smc hh1) (smc hb), Int.not_lt]
    constructor
    · rintro (x | x | x | x | x)
      · exact Or.inl x
      · exact Or.inr (Or.inl (Or.inl x))
      · exact Or.inr (Or.inl (Or.inr x))
      · exact Or.inr (Or.inr (Or.inl x))
      · exact Or.inr (Or.inr (Or.inr x))
    · rintro (x | (x | x) | (x | x))
      · exact Or.inl x
      · exact Or.inr (Or.inl x)
      · exact Or.inr (Or.inr (Or.inl x))
      · exact Or.inr (Or.inr (Or.inr (Or.inl x)))
      · exact Or.inr (Or.inr (Or.inr (Or.inr x)))
theorem toM_ext {M M' : Nat → Nat → Int32} (h1 : M' 42 = M 42) (h2 : M' 43 = M 43) (h3 : M' 45 = M 45) (h4 : M' 46 = M 46) (h5 : M' 47 = M 47) (h6 : M' 48 = M 48) (p g : Nat) : toM M' p g = toM M p g := by
  unfold toM; rw [h1, h2, h3, h4, h5, h6]
theorem Inv.to {M : Nat → Nat → Int32} {cn gn dn : Nat} {pn : Nat → Nat} (h : Inv M cn gn dn pn) {j k u : Nat} (hj : j < cn) (hk : k < pn j) (hu : u < gn) : mtO (rX M j) (rY M j) k (M (6 + u) 0) (M (6 + u) 1) (M (6 + u) 2) (M (6 + u) 3) = toM M (8 * j + k) u := by
  obtain ⟨⟨g0, g1, g2, g3, _, _⟩, ⟨a1, a2, a3⟩, b1, b2, b3⟩ := h.gr.1 u hu
  rw [g0, g1, g2, g3]
  have x := h.xy
  exact mt_to (x j hj k (by omega)).1.1 (x j hj (k + 1) (by omega)).1.1 (x j hj k (by omega)).1.2 (x j hj (k + 1) (by omega)).1.2 (h.ixy.c42 hj (by omega)) (h.ixy.c42 hj (k := k + 1) (by omega)) (h.ixy.c43 hj (by omega)) (h.ixy.c43 hj (k := k + 1) (by omega)) ⟨a1, Int32.le_trans a2 a3⟩ ⟨b1, Int32.le_trans b2 b3⟩ ⟨Int32.le_trans a1 a2, a3⟩ ⟨Int32.le_trans b1 b2, b3⟩ a2 b2
theorem st_touches {M : Nat → Nat → Int32} {cn gn dn : Nat} {pn : Nat → Nat} (h : Inv M cn gn dn pn) (a q g : Int32) : St_touches M cn gn dn pn a q g := by
  obtain ⟨MF, hMF⟩ : ∃ MF, MF = oM_touches M cn gn dn pn a q g := ⟨_, rfl⟩
  have hq := mf_row (h := (hMF : MF = if _ then _ else _))
  have g5 := h.o.g5
  have c8 := h.o.c8
  unfold St_touches
  rw [← hMF]
  obtain ⟨A1, A2, A3, A4⟩ := ask1 (b := pcM cn pn a q && cbM gn g) (E := eX) (R := bI (toM MF (8 * tn a + tn q) (tn g))) h hMF (by
    rw [erPc_cb c8 h.m.pp, erC_cb (by omega)]
    cases pcM cn pn a q <;> cases cbM gn g <;> rfl) (fun hb => by
    rw [Bool.and_eq_true] at hb
    obtain ⟨j, k, hj, rfl, hk, rfl⟩ := pcM_true c8 h.m.pp hb.1
    obtain ⟨u, hu, rfl⟩ := cbM_true (show gn ≤ 8 by omega) hb.2
    have h7 := h.m.pp j hj
    rw [tn_nI (by omega), tn_nI (by omega), tn_nI (by omega), toM_ext (hq 42 (by decide)) (hq 43 (by decide)) (hq 45 (by decide)) (hq 46 (by decide)) (hq 47 (by decide)) (hq 48 (by decide)), h.to hj hk hu])
  exact ⟨A1, A2, A3, bit_ite _, cn, gn, dn, pn, A4⟩
