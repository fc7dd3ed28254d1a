/-! Two straight pieces have a place in common: by boxes and sides, and by ends. In whole numbers, from the first piece's start: u, then w and w + v. -/
theorem i_lg (a b : Int) : a < b ∨ b ≤ a := by omega
def Rs (u1 u2 v1 v2 w1 w2 S1 S2 S3 S4 : Int) : Prop := S1 = u1 * w2 - u2 * w1 ∧ S2 = S1 + (u1 * v2 - u2 * v1) ∧ S3 = v2 * w1 - v1 * w2 ∧ S4 = S3 - (u1 * v2 - u2 * v1)
def ov (u v w : Int) : Prop := ¬ (0 < w ∧ u < w ∧ 0 < w + v ∧ u < w + v) ∧ ¬ (w < 0 ∧ w < u ∧ w + v < 0 ∧ w + v < u)
def bt (z u w : Int) : Prop := (z ≤ w ∧ w ≤ u) ∨ (u ≤ w ∧ w ≤ z)
def nsd (a b : Int) : Prop := ¬ (0 < a ∧ 0 < b) ∧ ¬ (a < 0 ∧ b < 0)
def opp (a b : Int) : Prop := (0 < a ∧ b < 0) ∨ (a < 0 ∧ 0 < b)
def CR (u1 u2 v1 v2 w1 w2 S1 S2 S3 S4 : Int) : Prop := ov u1 v1 w1 ∧ ov u2 v2 w2 ∧ nsd S1 S2 ∧ nsd S3 S4
def ME (u1 u2 v1 v2 w1 w2 S1 S2 S3 S4 : Int) : Prop := (S1 = 0 ∧ bt 0 u1 w1 ∧ bt 0 u2 w2) ∨ (S2 = 0 ∧ bt 0 u1 (w1 + v1) ∧ bt 0 u2 (w2 + v2)) ∨ (S3 = 0 ∧ bt w1 (w1 + v1) 0 ∧ bt w2 (w2 + v2) 0) ∨ (S4 = 0 ∧ bt w1 (w1 + v1) u1 ∧ bt w2 (w2 + v2) u2) ∨ (opp S1 S2 ∧ opp S3 S4)
theorem Rs.swap {u1 u2 v1 v2 w1 w2 S1 S2 S3 S4 : Int} (h : Rs u1 u2 v1 v2 w1 w2 S1 S2 S3 S4) : Rs v1 v2 u1 u2 (-w1) (-w2) S3 S4 S1 S2 := by
  obtain ⟨a, b, c, d⟩ := h
  exact ⟨by grind, by grind, by grind, by grind⟩
theorem Rs.rev {u1 u2 v1 v2 w1 w2 S1 S2 S3 S4 : Int} (h : Rs u1 u2 v1 v2 w1 w2 S1 S2 S3 S4) : Rs u1 u2 (-v1) (-v2) (w1 + v1) (w2 + v2) S2 S1 (-S3) (-S4) := by
  obtain ⟨a, b, c, d⟩ := h
  exact ⟨by grind, by grind, by grind, by grind⟩
theorem ov_swap {u v w : Int} : ov v u (-w) ↔ ov u v w := by unfold ov; omega
theorem ov_rev {u v w : Int} : ov u (-v) (w + v) ↔ ov u v w := by unfold ov; omega
theorem nsd_rev {a b : Int} : nsd b a ↔ nsd a b := by unfold nsd; omega
theorem nsd_neg {a b : Int} : nsd (-a) (-b) ↔ nsd a b := by unfold nsd; omega
theorem CR_swap {u1 u2 v1 v2 w1 w2 S1 S2 S3 S4 : Int} : CR v1 v2 u1 u2 (-w1) (-w2) S3 S4 S1 S2 ↔ CR u1 u2 v1 v2 w1 w2 S1 S2 S3 S4 := by
  unfold CR
  rw [ov_swap, ov_swap]
  constructor
  · rintro ⟨a, b, c, d⟩; exact ⟨a, b, d, c⟩
  · rintro ⟨a, b, c, d⟩; exact ⟨a, b, d, c⟩
theorem CR_rev {u1 u2 v1 v2 w1 w2 S1 S2 S3 S4 : Int} : CR u1 u2 (-v1) (-v2) (w1 + v1) (w2 + v2) S2 S1 (-S3) (-S4) ↔ CR u1 u2 v1 v2 w1 w2 S1 S2 S3 S4 := by
  unfold CR
  rw [ov_rev, ov_rev, nsd_rev, nsd_neg]
theorem bt_sh {z u w : Int} : bt (-w) (-w + u) 0 ↔ bt 0 u w := by unfold bt; omega
theorem bt_sh2 {u v w : Int} : bt (-w) (-w + u) v ↔ bt 0 u (w + v) := by unfold bt; omega
theorem bt_sh3 {v w : Int} : bt 0 v (-w) ↔ bt w (w + v) 0 := by unfold bt; omega
theorem bt_sh4 {u v w : Int} : bt 0 v (-w + u) ↔ bt w (w + v) u := by unfold bt; omega
theorem opp_rev {a b : Int} : opp b a ↔ opp a b := by unfold opp; omega
theorem opp_neg {a b : Int} : opp (-a) (-b) ↔ opp a b := by unfold opp; omega
theorem ME_swap {u1 u2 v1 v2 w1 w2 S1 S2 S3 S4 : Int} (h : ME v1 v2 u1 u2 (-w1) (-w2) S3 S4 S1 S2) : ME u1 u2 v1 v2 w1 w2 S1 S2 S3 S4 := by
  rcases h with ⟨a, b, c⟩ | ⟨a, b, c⟩ | ⟨a, b, c⟩ | ⟨a, b, c⟩ | ⟨a, b⟩
  · exact Or.inr (Or.inr (Or.inl ⟨a, bt_sh3.mp b, bt_sh3.mp c⟩))
  · exact Or.inr (Or.inr (Or.inr (Or.inl ⟨a, bt_sh4.mp b, bt_sh4.mp c⟩)))
  · exact Or.inl ⟨a, (bt_sh (z := 0)).mp b, (bt_sh (z := 0)).mp c⟩
  · exact Or.inr (Or.inl ⟨a, bt_sh2.mp b, bt_sh2.mp c⟩)
  · exact Or.inr (Or.inr (Or.inr (Or.inr ⟨b, a⟩)))
theorem bt_r1 {v w z : Int} : bt (w + v) (w + v + -v) z ↔ bt w (w + v) z := by unfold bt; omega
theorem bt_r2 {u v w : Int} : bt 0 u (w + v + -v) ↔ bt 0 u w := by unfold bt; omega
theorem ME_rev {u1 u2 v1 v2 w1 w2 S1 S2 S3 S4 : Int} (h : ME u1 u2 (-v1) (-v2) (w1 + v1) (w2 + v2) S2 S1 (-S3) (-S4)) : ME u1 u2 v1 v2 w1 w2 S1 S2 S3 S4 := by
  rcases h with ⟨a, b, c⟩ | ⟨a, b, c⟩ | ⟨a, b, c⟩ | ⟨a, b, c⟩ | ⟨a, b⟩
  · exact Or.inr (Or.inl ⟨a, b, c⟩)
  · exact Or.inl ⟨a, bt_r2.mp b, bt_r2.mp c⟩
  · exact Or.inr (Or.inr (Or.inl ⟨by omega, bt_r1.mp b, bt_r1.mp c⟩))
  · exact Or.inr (Or.inr (Or.inr (Or.inl ⟨by omega, bt_r1.mp b, bt_r1.mp c⟩)))
  · exact Or.inr (Or.inr (Or.inr (Or.inr ⟨opp_rev.mp a, opp_neg.mp b⟩)))
/-- a point between the ends: the other piece's ends aren't both strictly on one side -/
theorem k1 {u w S D : Int} (hu : 0 < u) (h0 : 0 ≤ w) (h1 : w ≤ u) (e : u * S = w * D) : nsd S (S - D) := by
  constructor
  · rintro ⟨a, b⟩
    have p1 := Int.mul_pos hu a
    have p2 := Int.mul_pos hu b
    rcases i_lg 0 D with q | q
    · have p3 := Int.mul_nonneg (show 0 ≤ u - w by omega) (show 0 ≤ D by omega)
      grind
    · have p3 := Int.mul_nonneg h0 (show 0 ≤ -D by omega)
      grind
  · rintro ⟨a, b⟩
    have p1 := Int.mul_pos hu (show 0 < -S by omega)
    have p2 := Int.mul_pos hu (show 0 < -(S - D) by omega)
    rcases i_lg D 0 with q | q
    · have p3 := Int.mul_nonneg (show 0 ≤ u - w by omega) (show 0 ≤ -D by omega)
      grind
    · have p3 := Int.mul_nonneg h0 q
      grind
theorem k1' {u w S D : Int} (hu : u ≠ 0) (hb : bt 0 u w) (e : u * S = w * D) : nsd S (S - D) := by
  rcases Int.lt_or_gt_of_ne hu with q | q
  · exact k1 (u := -u) (w := -w) (by omega) (by unfold bt at hb; omega) (by unfold bt at hb; omega) (by grind)
  · exact k1 q (by unfold bt at hb; omega) (by unfold bt at hb; omega) e
theorem R1 {u1 u2 v1 v2 w1 w2 S1 S2 S3 S4 : Int} (h : Rs u1 u2 v1 v2 w1 w2 S1 S2 S3 S4) (h0 : S1 = 0) (b1 : bt 0 u1 w1) (b2 : bt 0 u2 w2) : CR u1 u2 v1 v2 w1 w2 S1 S2 S3 S4 := by
  obtain ⟨e1, e2, e3, e4⟩ := h
  refine ⟨by unfold bt at b1; unfold ov; omega, by unfold bt at b2; unfold ov; omega, by unfold nsd; omega, ?_⟩
  rw [e4]
  by_cases z1 : u1 = 0
  · by_cases z2 : u2 = 0
    · have w10 : w1 = 0 := by unfold bt at b1; omega
      have w20 : w2 = 0 := by unfold bt at b2; omega
      subst z1; subst z2; subst w10; subst w20
      unfold nsd; omega
    · exact k1' z2 b2 (by grind)
  · exact k1' z1 b1 (by grind)
/-- a line's point: between the ends, as the other piece isn't strictly on one side -/
theorem k2 {u w S D : Int} (hD : D ≠ 0) (e : u * S = w * D) (hn : nsd S (S - D)) : bt 0 u w := by
  have key : ∀ u w S D : Int, 0 < D → u * S = w * D → nsd S (S - D) → bt 0 u w := by
    intro u w S D hD e hn
    obtain ⟨n1, n2⟩ := hn
    have s0 : 0 ≤ S := by
      rcases i_lg S 0 with q | q
      · exact absurd ⟨q, by omega⟩ n2
      · exact q
    have s1 : S ≤ D := by
      rcases i_lg D S with q | q
      · exact absurd ⟨by omega, by omega⟩ n1
      · exact q
    rcases i_lg u 0 with q | q
    · right
      constructor
      · rcases i_lg w u with z | z
        · have p1 := Int.mul_pos (show 0 < u - w by omega) hD
          have p2 := Int.mul_nonneg (show 0 ≤ -u by omega) (show 0 ≤ D - S by omega)
          grind
        · exact z
      · rcases i_lg 0 w with z | z
        · have p1 := Int.mul_pos z hD
          have p2 := Int.mul_nonneg (show 0 ≤ -u by omega) s0
          grind
        · exact z
    · left
      constructor
      · rcases i_lg w 0 with z | z
        · have p1 := Int.mul_pos (show 0 < -w by omega) hD
          have p2 := Int.mul_nonneg q s0
          grind
        · exact z
      · rcases i_lg u w with z | z
        · have p1 := Int.mul_pos (show 0 < w - u by omega) hD
          have p2 := Int.mul_nonneg q (show 0 ≤ D - S by omega)
          grind
        · exact z
  rcases Int.lt_or_gt_of_ne hD with q | q
  · exact key u w (-S) (-D) (by omega) (by grind) (by unfold nsd at *; omega)
  · exact key u w S D q e hn
theorem k3 {u1 u2 t1 t2 : Int} (hu : u1 ≠ 0) (hb : bt 0 u1 t1) (e : u1 * t2 = u2 * t1) : bt 0 u2 t2 := by
  have key : ∀ u1 u2 t1 t2 : Int, 0 < u1 → 0 ≤ t1 → t1 ≤ u1 → u1 * t2 = u2 * t1 → bt 0 u2 t2 := by
    intro u1 u2 t1 t2 h0 h1 h2 e
    rcases i_lg u2 0 with q | q
    · right
      constructor
      · rcases i_lg t2 u2 with z | z
        · have p1 := Int.mul_pos h0 (show 0 < u2 - t2 by omega)
          have p2 := Int.mul_nonneg (show 0 ≤ -u2 by omega) (show 0 ≤ u1 - t1 by omega)
          grind
        · exact z
      · rcases i_lg 0 t2 with z | z
        · have p1 := Int.mul_pos h0 z
          have p2 := Int.mul_nonneg (show 0 ≤ -u2 by omega) h1
          grind
        · exact z
    · left
      constructor
      · rcases i_lg t2 0 with z | z
        · have p1 := Int.mul_pos h0 (show 0 < -t2 by omega)
          have p2 := Int.mul_nonneg q h1
          grind
        · exact z
      · rcases i_lg u2 t2 with z | z
        · have p1 := Int.mul_pos h0 (show 0 < t2 - u2 by omega)
          have p2 := Int.mul_nonneg q (show 0 ≤ u1 - t1 by omega)
          grind
        · exact z
  rcases Int.lt_or_gt_of_ne hu with q | q
  · exact key (-u1) u2 (-t1) t2 (by omega) (by unfold bt at hb; omega) (by unfold bt at hb; omega) (by grind)
  · exact key u1 u2 t1 t2 q (by unfold bt at hb; omega) (by unfold bt at hb; omega) e
theorem ov_bt {u v w : Int} (h : ov u v w) : bt 0 u w ∨ bt 0 u (w + v) ∨ bt w (w + v) 0 := by unfold ov at h; unfold bt; omega
theorem col {u1 u2 v1 v2 w1 w2 : Int} (e1 : u1 * w2 = u2 * w1) (e2 : u1 * v2 = u2 * v1) (e3 : v1 * w2 = v2 * w1) (hu : u1 ≠ 0) (hv : v1 ≠ 0) (ho : ov u1 v1 w1) : (bt 0 u1 w1 ∧ bt 0 u2 w2) ∨ (bt 0 u1 (w1 + v1) ∧ bt 0 u2 (w2 + v2)) ∨ (bt w1 (w1 + v1) 0 ∧ bt w2 (w2 + v2) 0) := by
  rcases ov_bt ho with b | b | b
  · exact Or.inl ⟨b, k3 hu b e1⟩
  · exact Or.inr (Or.inl ⟨b, k3 hu b (by grind)⟩)
  · exact Or.inr (Or.inr ⟨b, bt_sh3.mp (k3 (u1 := v1) (t1 := -w1) hv (bt_sh3.mpr b) (by grind))⟩)
theorem L1 {u1 u2 v1 v2 w1 w2 S1 S2 S3 S4 : Int} (h : Rs u1 u2 v1 v2 w1 w2 S1 S2 S3 S4) (hc : CR u1 u2 v1 v2 w1 w2 S1 S2 S3 S4) (h0 : S1 = 0) : ME u1 u2 v1 v2 w1 w2 S1 S2 S3 S4 := by
  obtain ⟨e1, e2, e3, e4⟩ := h
  obtain ⟨o1, o2, n1, n2⟩ := hc
  by_cases hD : u1 * v2 - u2 * v1 = 0
  · have s3 : S3 = 0 := by unfold nsd at n2; omega
    have f1 : u1 * w2 = u2 * w1 := by omega
    have f2 : u1 * v2 = u2 * v1 := by omega
    have f3 : v1 * w2 = v2 * w1 := by omega
    by_cases z1 : u1 = 0
    · by_cases z2 : u2 = 0
      · exact Or.inr (Or.inr (Or.inl ⟨s3, by unfold ov at o1; unfold bt; omega, by unfold ov at o2; unfold bt; omega⟩))
      · by_cases y2 : v2 = 0
        · have y1 : v1 = 0 := by
            have : u2 * v1 = 0 := by rw [← f2, y2, Int.mul_zero]
            exact (Int.mul_eq_zero.mp this).resolve_left z2
          exact Or.inl ⟨h0, by unfold ov at o1; unfold bt; omega, by unfold ov at o2; unfold bt; omega⟩
        · rcases col f1.symm f2.symm f3.symm z2 y2 o2 with ⟨a, b⟩ | ⟨a, b⟩ | ⟨a, b⟩
          · exact Or.inl ⟨h0, b, a⟩
          · exact Or.inr (Or.inl ⟨by omega, b, a⟩)
          · exact Or.inr (Or.inr (Or.inl ⟨s3, b, a⟩))
    · by_cases y1 : v1 = 0
      · have y2 : v2 = 0 := by
          have : u1 * v2 = 0 := by rw [f2, y1, Int.mul_zero]
          exact (Int.mul_eq_zero.mp this).resolve_left z1
        exact Or.inl ⟨h0, by unfold ov at o1; unfold bt; omega, by unfold ov at o2; unfold bt; omega⟩
      · rcases col f1 f2 f3 z1 y1 o1 with ⟨a, b⟩ | ⟨a, b⟩ | ⟨a, b⟩
        · exact Or.inl ⟨h0, a, b⟩
        · exact Or.inr (Or.inl ⟨by omega, a, b⟩)
        · exact Or.inr (Or.inr (Or.inl ⟨s3, a, b⟩))
  · rw [e4] at n2
    exact Or.inl ⟨h0, k2 hD (by grind) n2, k2 hD (by grind) n2⟩
/-- proper: the boxes overlap -/
theorem k5 {u v w S1 S2 S3 S4 D : Int} (e : u * S3 + v * S1 = w * D) (h2 : S2 = S1 + D) (h4 : S4 = S3 - D) (o1 : opp S1 S2) (o2 : opp S3 S4) : ov u v w := by
  have key : ∀ u v w S1 S3 D : Int, u * S3 + v * S1 = w * D → S1 < 0 → 0 < S1 + D → 0 < S3 → S3 - D < 0 → ¬ (0 < w ∧ u < w ∧ 0 < w + v ∧ u < w + v) := by
    intro u v w S1 S3 D e a b c d
    rintro ⟨p1, p2, p3, p4⟩
    rcases i_lg 0 u with q | q
    · have q1 := Int.mul_pos b (show 0 < w - u by omega)
      have q2 := Int.mul_pos (show 0 < -S1 by omega) (show 0 < w + v - u by omega)
      have q3 := Int.mul_pos q (show 0 < D - S3 by omega)
      grind
    · have q1 := Int.mul_pos b p1
      have q2 := Int.mul_pos (show 0 < -S1 by omega) p3
      have q3 := Int.mul_nonneg (show 0 ≤ -u by omega) (show 0 ≤ S3 by omega)
      grind
  subst h2; subst h4
  rcases o1 with ⟨a, b⟩ | ⟨a, b⟩
  · have c : S3 < 0 ∧ 0 < S3 - D := by unfold opp at o2; omega
    refine ⟨key u v w (-S1) (-S3) (-D) (by grind) (by omega) (by omega) (by omega) (by omega), fun z => ?_⟩
    exact key (-u) (-v) (-w) (-S1) (-S3) (-D) (by grind) (by omega) (by omega) (by omega) (by omega) ⟨by omega, by omega, by omega, by omega⟩
  · have c : 0 < S3 ∧ S3 - D < 0 := by unfold opp at o2; omega
    refine ⟨key u v w S1 S3 D e a b c.1 c.2, fun z => ?_⟩
    exact key (-u) (-v) (-w) S1 S3 D (by grind) a b c.1 c.2 ⟨by omega, by omega, by omega, by omega⟩
theorem R5 {u1 u2 v1 v2 w1 w2 S1 S2 S3 S4 : Int} (h : Rs u1 u2 v1 v2 w1 w2 S1 S2 S3 S4) (o1 : opp S1 S2) (o2 : opp S3 S4) : CR u1 u2 v1 v2 w1 w2 S1 S2 S3 S4 := by
  obtain ⟨e1, e2, e3, e4⟩ := h
  exact ⟨k5 (by grind) e2 e4 o1 o2, k5 (by grind) e2 e4 o1 o2, by unfold opp at o1; unfold nsd; omega, by unfold opp at o2; unfold nsd; omega⟩
theorem seg_iff {u1 u2 v1 v2 w1 w2 S1 S2 S3 S4 : Int} (h : Rs u1 u2 v1 v2 w1 w2 S1 S2 S3 S4) : CR u1 u2 v1 v2 w1 w2 S1 S2 S3 S4 ↔ ME u1 u2 v1 v2 w1 w2 S1 S2 S3 S4 := by
  constructor
  · intro hc
    by_cases z1 : S1 = 0
    · exact L1 h hc z1
    · by_cases z2 : S2 = 0
      · exact ME_rev (L1 h.rev (CR_rev.mpr hc) z2)
      · by_cases z3 : S3 = 0
        · exact ME_swap (L1 h.swap (CR_swap.mpr hc) z3)
        · by_cases z4 : S4 = 0
          · exact ME_swap (ME_rev (L1 h.swap.rev (CR_rev.mpr (CR_swap.mpr hc)) z4))
          · obtain ⟨_, _, n1, n2⟩ := hc
            exact Or.inr (Or.inr (Or.inr (Or.inr ⟨by unfold nsd at n1; unfold opp; omega, by unfold nsd at n2; unfold opp; omega⟩)))
  · rintro (⟨a, b, c⟩ | ⟨a, b, c⟩ | ⟨a, b, c⟩ | ⟨a, b, c⟩ | ⟨a, b⟩)
    · exact R1 h a b c
    · exact CR_rev.mp (R1 h.rev a b c)
    · exact CR_swap.mp (R1 h.swap a (bt_sh3.mpr b) (bt_sh3.mpr c))
    · exact CR_swap.mp (CR_rev.mp (R1 h.swap.rev a (bt_sh4.mpr b) (bt_sh4.mpr c)))
    · exact R5 h a b
