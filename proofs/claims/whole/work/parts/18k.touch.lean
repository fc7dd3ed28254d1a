/-! A piece and a ground: by box and line, and by edges. -/
theorem sg0 (a b : Int) (hb : 0 ≤ b) : (0 < a → 0 ≤ a * b) ∧ (a < 0 → a * b ≤ 0) ∧ (a = 0 → a * b = 0) := by
  refine ⟨fun h => Int.mul_nonneg (by omega) hb, fun h => ?_, fun h => by rw [h, Int.zero_mul]⟩
  have := Int.mul_nonneg (show 0 ≤ -a by omega) hb
  grind
theorem sg1 (a b : Int) (hb : 0 < b) : (0 < a → 0 < a * b) ∧ (a < 0 → a * b < 0) ∧ (a = 0 → a * b = 0) := by
  refine ⟨fun h => Int.mul_pos h hb, fun h => ?_, fun h => by rw [h, Int.zero_mul]⟩
  have := Int.mul_pos (show 0 < -a by omega) hb
  grind
theorem sgm (a b : Int) (hb : b ≤ 0) : (0 < a → a * b ≤ 0) ∧ (a < 0 → 0 ≤ a * b) ∧ (a = 0 → a * b = 0) := by
  obtain ⟨h1, h2, h3⟩ := sg0 a (-b) (by omega)
  rw [Int.mul_neg] at h1 h2 h3
  exact ⟨fun h => by have := h1 h; omega, fun h => by have := h2 h; omega, fun h => by have := h3 h; omega⟩
theorem sgm1 (a b : Int) (hb : b < 0) : (0 < a → a * b < 0) ∧ (a < 0 → 0 < a * b) ∧ (a = 0 → a * b = 0) := by
  obtain ⟨h1, h2, h3⟩ := sg1 a (-b) (by omega)
  rw [Int.mul_neg] at h1 h2 h3
  exact ⟨fun h => by have := h1 h; omega, fun h => by have := h2 h; omega, fun h => by have := h3 h; omega⟩
def n4 (a b c d : Int) : Prop := ¬ (0 < a ∧ 0 < b ∧ 0 < c ∧ 0 < d) ∧ ¬ (a < 0 ∧ b < 0 ∧ c < 0 ∧ d < 0)
def ox (a c l r : Int) : Prop := ¬ (r < a ∧ r < c) ∧ ¬ (a < l ∧ c < l)
theorem n4_a {a b c d : Int} (h : n4 a b c d) : n4 c d a b := by unfold n4 at *; omega
theorem n4_b {a b c d : Int} (h : n4 a b c d) : n4 (-a) (-c) (-b) (-d) := by unfold n4 at *; omega
theorem n4_c {a b c d : Int} (h : n4 a b c d) : n4 (-b) (-d) (-a) (-c) := by unfold n4 at *; omega
theorem cA {s1 s2 s3 s4 P1 P2 Q1 Q2 : Int} (e1 : s1 = Q1 - Q2) (e2 : s2 = s1 - P2) (e3 : s3 = s1 + P1) (e4 : s4 = s1 + P1 - P2) (a : Q2 ≤ 0) (b : 0 ≤ Q2 + P2) (hs : (0 < Q1 ∧ 0 ≤ P1) ∨ (Q1 < 0 ∧ P1 ≤ 0) ∨ (Q1 = 0 ∧ P1 = 0)) (n : n4 s1 s2 s3 s4) : nsd s1 s2 := by
  obtain ⟨n1, n2⟩ := n
  rcases hs with ⟨x, y⟩ | ⟨x, y⟩ | ⟨x, y⟩
  · exact ⟨fun z => n1 ⟨z.1, z.2, by omega, by omega⟩, fun z => by omega⟩
  · exact ⟨fun z => by omega, fun z => n2 ⟨z.1, z.2, by omega, by omega⟩⟩
  · exact ⟨fun z => by omega, fun z => by omega⟩
theorem cC1 {s1 P1 P2 : Int} (a : 0 ≤ P1) (b : 0 ≤ P2) (n : n4 s1 (s1 - P2) (s1 + P1) (s1 + P1 - P2)) : nsd s1 (s1 - P2) ∨ nsd s1 (s1 + P1) := by unfold n4 at n; unfold nsd; omega
theorem cC2 {s1 P1 P2 : Int} (a : 0 ≤ P1) (b : P2 ≤ 0) (n : n4 s1 (s1 - P2) (s1 + P1) (s1 + P1 - P2)) : nsd (s1 + P1) (s1 + P1 - P2) ∨ nsd s1 (s1 + P1) := by unfold n4 at n; unfold nsd; omega
theorem cC3 {s1 P1 P2 : Int} (a : P1 ≤ 0) (b : 0 ≤ P2) (n : n4 s1 (s1 - P2) (s1 + P1) (s1 + P1 - P2)) : nsd s1 (s1 - P2) ∨ nsd (s1 - P2) (s1 + P1 - P2) := by unfold n4 at n; unfold nsd; omega
theorem cC4 {s1 P1 P2 : Int} (a : P1 ≤ 0) (b : P2 ≤ 0) (n : n4 s1 (s1 - P2) (s1 + P1) (s1 + P1 - P2)) : nsd (s1 + P1) (s1 + P1 - P2) ∨ nsd (s1 - P2) (s1 + P1 - P2) := by unfold n4 at n; unfold nsd; omega
theorem cI {Q1 Q2 R1 R2 : Int} (h1 : (Q1 ≤ 0 ∧ 0 ≤ R1) ∨ (0 ≤ Q1 ∧ R1 ≤ 0)) (h2 : (Q2 ≤ 0 ∧ 0 ≤ R2) ∨ (0 ≤ Q2 ∧ R2 ≤ 0)) : n4 (Q1 - Q2) (Q1 - R2) (R1 - Q2) (R1 - R2) := by
  rcases h1 with ⟨a, b⟩ | ⟨a, b⟩ <;> rcases h2 with ⟨c, d⟩ | ⟨c, d⟩ <;> exact ⟨fun z => by omega, fun z => by omega⟩
theorem sgx (u p q : Int) (hp : p ≤ 0) (hq : 0 ≤ q) : (u * p ≤ 0 ∧ 0 ≤ u * q) ∨ (0 ≤ u * p ∧ u * q ≤ 0) := by
  rcases i_lg u 0 with z | z
  · exact Or.inr ⟨(sgm u p hp).2.1 z, (sg0 u q hq).2.1 z⟩
  · rcases Int.lt_or_eq_of_le z with y | y
    · exact Or.inl ⟨(sgm u p hp).1 y, (sg0 u q hq).1 y⟩
    · rw [← y]; exact Or.inl ⟨by rw [Int.zero_mul]; omega, by rw [Int.zero_mul]; omega⟩
theorem sgy (u p q : Int) (hp : 0 < p) (hq : 0 ≤ q) : (0 < u * p ∧ 0 ≤ u * q) ∨ (u * p < 0 ∧ u * q ≤ 0) ∨ (u * p = 0 ∧ u * q = 0) := by
  rcases Int.lt_trichotomy u 0 with z | z | z
  · exact Or.inr (Or.inl ⟨(sg1 u p hp).2.1 z, (sg0 u q hq).2.1 z⟩)
  · exact Or.inr (Or.inr ⟨(sg1 u p hp).2.2 z, (sg0 u q hq).2.2 z⟩)
  · exact Or.inl ⟨(sg1 u p hp).1 z, (sg0 u q hq).1 z⟩
theorem sgz (u p q : Int) (hp : p < 0) (hq : 0 ≤ q) : (0 < u * p ∧ 0 ≤ -(u * q)) ∨ (u * p < 0 ∧ -(u * q) ≤ 0) ∨ (u * p = 0 ∧ -(u * q) = 0) := by
  rcases Int.lt_trichotomy u 0 with z | z | z
  · exact Or.inl ⟨(sgm1 u p hp).2.1 z, by have := (sg0 u q hq).2.1 z; omega⟩
  · exact Or.inr (Or.inr ⟨(sgm1 u p hp).2.2 z, by have := (sg0 u q hq).2.2 z; omega⟩)
  · exact Or.inr (Or.inl ⟨(sgm1 u p hp).1 z, by have := (sg0 u q hq).1 z; omega⟩)
/-- corners: s at (l, lo), (r, lo), (l, h), (r, h) -/
theorem rect_iff {a b c d l lo r h s1 s2 s3 s4 : Int} (hlr : l ≤ r) (hlh : lo ≤ h) (e1 : s1 = (c - a) * (lo - b) - (d - b) * (l - a)) (e2 : s2 = s1 - (d - b) * (r - l)) (e3 : s3 = s1 + (c - a) * (h - lo)) (e4 : s4 = s1 + (c - a) * (h - lo) - (d - b) * (r - l)) :
    (ox a c l r ∧ ox b d lo h ∧ n4 s1 s2 s3 s4) ↔ ((l ≤ a ∧ a ≤ r) ∧ lo ≤ b ∧ b ≤ h) ∨ (ox a c l r ∧ bt b d lo ∧ nsd s1 s2) ∨ (ox a c l r ∧ bt b d h ∧ nsd s3 s4) ∨ (ox b d lo h ∧ bt a c l ∧ nsd s1 s3) ∨ (ox b d lo h ∧ bt a c r ∧ nsd s2 s4) := by
  have x3 : (c - a) * (h - b) = (c - a) * (lo - b) + (c - a) * (h - lo) := by grind
  have x4 : (d - b) * (r - a) = (d - b) * (l - a) + (d - b) * (r - l) := by grind
  constructor
  · rintro ⟨o1, o2, n⟩
    by_cases ha : l ≤ a ∧ a ≤ r
    · by_cases hb : lo ≤ b ∧ b ≤ h
      · exact Or.inl ⟨ha, hb⟩
      · rcases i_lg b lo with z | z
        · have hd : 0 < d - b := by unfold ox at o2; omega
          have q1 := (sgm (d - b) (l - a) (by omega)).1 hd
          have q2 := (sg0 (d - b) (r - a) (by omega)).1 hd
          rw [x4] at q2
          exact Or.inr (Or.inl ⟨o1, by unfold ox at o2; unfold bt; omega, cA e1 e2 e3 e4 q1 q2 (sgy (c - a) (lo - b) (h - lo) (by omega) (by omega)) n⟩)
        · have hd : d - b < 0 := by unfold ox at o2; omega
          have q1 := (sgm (d - b) (l - a) (by omega)).2.1 hd
          have q2 := (sg0 (d - b) (r - a) (by omega)).2.1 hd
          rw [x4] at q2
          have q3 := sgz (c - a) (h - b) (h - lo) (by omega) (by omega)
          rw [x3] at q3
          refine Or.inr (Or.inr (Or.inl ⟨o1, by unfold ox at o2; unfold bt; omega, ?_⟩))
          have w := cA (s1 := s4) (s2 := s3) (s3 := s2) (s4 := s1) (P1 := -((c - a) * (h - lo))) (P2 := -((d - b) * (r - l))) (Q1 := (c - a) * (lo - b) + (c - a) * (h - lo)) (Q2 := (d - b) * (l - a) + (d - b) * (r - l)) (by omega) (by omega) (by omega) (by omega) q2 (by omega) q3 (by unfold n4 at n ⊢; omega)
          exact nsd_rev.mp w
    · by_cases hb : lo ≤ b ∧ b ≤ h
      · rcases i_lg a l with z | z
        · have hd : 0 < c - a := by unfold ox at o1; omega
          have q1 := (sgm (c - a) (lo - b) (by omega)).1 hd
          have q2 := (sg0 (c - a) (h - b) (by omega)).1 hd
          rw [x3] at q2
          refine Or.inr (Or.inr (Or.inr (Or.inl ⟨o2, by unfold ox at o1; unfold bt; omega, ?_⟩)))
          exact nsd_neg.mp (cA (s1 := -s1) (s2 := -s3) (s3 := -s2) (s4 := -s4) (P1 := (d - b) * (r - l)) (P2 := (c - a) * (h - lo)) (Q1 := (d - b) * (l - a)) (Q2 := (c - a) * (lo - b)) (by omega) (by omega) (by omega) (by omega) q1 q2 (sgy (d - b) (l - a) (r - l) (by omega) (by omega)) (n4_b n))
        · have hd : c - a < 0 := by unfold ox at o1; omega
          have q1 := (sgm (c - a) (lo - b) (by omega)).2.1 hd
          have q2 := (sg0 (c - a) (h - b) (by omega)).2.1 hd
          rw [x3] at q2
          have q3 := sgz (d - b) (r - a) (r - l) (by omega) (by omega)
          rw [x4] at q3
          refine Or.inr (Or.inr (Or.inr (Or.inr ⟨o2, by unfold ox at o1; unfold bt; omega, ?_⟩)))
          have w := cA (s1 := -s4) (s2 := -s2) (s3 := -s3) (s4 := -s1) (P1 := -((d - b) * (r - l))) (P2 := -((c - a) * (h - lo))) (Q1 := (d - b) * (l - a) + (d - b) * (r - l)) (Q2 := (c - a) * (lo - b) + (c - a) * (h - lo)) (by omega) (by omega) (by omega) (by omega) q2 (by omega) q3 (by unfold n4 at n ⊢; omega)
          exact nsd_rev.mp (nsd_neg.mp w)
      · have p1 := sg0 (c - a) (h - lo) (by omega)
        have p2 := sg0 (d - b) (r - l) (by omega)
        rw [e2, e3, e4] at n ⊢
        rcases i_lg a l with z | z <;> rcases i_lg b lo with y | y
        · have u1 : 0 < c - a := by unfold ox at o1; omega
          have u2 : 0 < d - b := by unfold ox at o2; omega
          rcases cC1 (p1.1 u1) (p2.1 u2) n with w | w
          · exact Or.inr (Or.inl ⟨o1, by unfold ox at o2; unfold bt; omega, w⟩)
          · exact Or.inr (Or.inr (Or.inr (Or.inl ⟨o2, by unfold ox at o1; unfold bt; omega, w⟩)))
        · have u1 : 0 < c - a := by unfold ox at o1; omega
          have u2 : d - b < 0 := by unfold ox at o2; omega
          rcases cC2 (p1.1 u1) (p2.2.1 u2) n with w | w
          · exact Or.inr (Or.inr (Or.inl ⟨o1, by unfold ox at o2; unfold bt; omega, w⟩))
          · exact Or.inr (Or.inr (Or.inr (Or.inl ⟨o2, by unfold ox at o1; unfold bt; omega, w⟩)))
        · have u1 : c - a < 0 := by unfold ox at o1; omega
          have u2 : 0 < d - b := by unfold ox at o2; omega
          rcases cC3 (p1.2.1 u1) (p2.1 u2) n with w | w
          · exact Or.inr (Or.inl ⟨o1, by unfold ox at o2; unfold bt; omega, w⟩)
          · exact Or.inr (Or.inr (Or.inr (Or.inr ⟨o2, by unfold ox at o1; unfold bt; omega, w⟩)))
        · have u1 : c - a < 0 := by unfold ox at o1; omega
          have u2 : d - b < 0 := by unfold ox at o2; omega
          rcases cC4 (p1.2.1 u1) (p2.2.1 u2) n with w | w
          · exact Or.inr (Or.inr (Or.inl ⟨o1, by unfold ox at o2; unfold bt; omega, w⟩))
          · exact Or.inr (Or.inr (Or.inr (Or.inr ⟨o2, by unfold ox at o1; unfold bt; omega, w⟩)))
  · rintro (⟨ha, hb⟩ | ⟨o1, b1, n⟩ | ⟨o1, b1, n⟩ | ⟨o2, b1, n⟩ | ⟨o2, b1, n⟩)
    · refine ⟨by unfold ox; omega, by unfold ox; omega, ?_⟩
      have w := cI (sgx (c - a) (lo - b) (h - b) (by omega) (by omega)) (sgx (d - b) (l - a) (r - a) (by omega) (by omega))
      rw [x3, x4] at w
      rw [e4, e3, e2, e1]
      have f2 : (c - a) * (lo - b) - (d - b) * (l - a) - (d - b) * (r - l) = (c - a) * (lo - b) - ((d - b) * (l - a) + (d - b) * (r - l)) := by omega
      have f3 : (c - a) * (lo - b) - (d - b) * (l - a) + (c - a) * (h - lo) = (c - a) * (lo - b) + (c - a) * (h - lo) - (d - b) * (l - a) := by omega
      have f4 : (c - a) * (lo - b) - (d - b) * (l - a) + (c - a) * (h - lo) - (d - b) * (r - l) = (c - a) * (lo - b) + (c - a) * (h - lo) - ((d - b) * (l - a) + (d - b) * (r - l)) := by omega
      rw [f4, f2, f3]
      exact w
    · exact ⟨o1, by unfold bt at b1; unfold ox; omega, ⟨fun w => n.1 ⟨w.1, w.2.1⟩, fun w => n.2 ⟨w.1, w.2.1⟩⟩⟩
    · exact ⟨o1, by unfold bt at b1; unfold ox; omega, ⟨fun w => n.1 ⟨w.2.2.1, w.2.2.2⟩, fun w => n.2 ⟨w.2.2.1, w.2.2.2⟩⟩⟩
    · exact ⟨by unfold bt at b1; unfold ox; omega, o2, ⟨fun w => n.1 ⟨w.1, w.2.2.1⟩, fun w => n.2 ⟨w.1, w.2.2.1⟩⟩⟩
    · exact ⟨by unfold bt at b1; unfold ox; omega, o2, ⟨fun w => n.1 ⟨w.2.1, w.2.2.2⟩, fun w => n.2 ⟨w.2.1, w.2.2.2⟩⟩⟩
