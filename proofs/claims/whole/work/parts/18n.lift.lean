/-! The office's lifted pieces, as a set. -/
def anyS (f : Nat → Bool) (n : Nat) : Prop := ∃ k, k < n ∧ f k = true
theorem anyB_iff {f : Nat → Bool} : ∀ n, anyB f n = true ↔ ∃ k, k < n ∧ f k = true
  | 0 => ⟨(fun h => Bool.noConfusion h), fun ⟨k, hk, _⟩ => by omega⟩
  | n + 1 => by
    simp only [anyB, Bool.or_eq_true, anyB_iff n]
    constructor
    · rintro (⟨k, hk, h⟩ | h)
      · exact ⟨k, by omega, h⟩
      · exact ⟨n, by omega, h⟩
    · rintro ⟨k, hk, h⟩
      rcases Nat.lt_or_ge k n with z | z
      · exact Or.inl ⟨k, z, h⟩
      · exact Or.inr (by rw [show n = k by omega]; exact h)
/-- which bits lyingOn gives -/
theorem gb_ly {M : Nat → Nat → Int32} {pn : Nat → Nat} {L : Int64} {b a : Nat} (ha : a < 8) : ∀ n, n ≤ 7 → ∀ z, z < 64 → (gb (lyO M pn L b a n) z = true ↔ ∃ q, q < n ∧ z = 8 * a + q ∧ loO2 M pn L b a q = true)
  | 0, _, z, _ => by
    rw [lyO, gb_0]
    exact ⟨(fun h => Bool.noConfusion h), fun ⟨q, hq, _⟩ => by omega⟩
  | n + 1, hn, z, hz => by
    rw [lyO]
    by_cases hl : loO2 M pn L b a n = true
    · rw [if_pos hl, gb_or, Bool.or_eq_true, gb_ly ha n (by omega) z hz, gb_bit (by omega) hz, decide_eq_true_eq]
      constructor
      · rintro (⟨q, hq, e, h⟩ | e)
        · exact ⟨q, by omega, e, h⟩
        · exact ⟨n, by omega, e.symm, hl⟩
      · rintro ⟨q, hq, e, h⟩
        rcases Nat.lt_or_ge q n with y | y
        · exact Or.inl ⟨q, y, e, h⟩
        · exact Or.inr (by rw [e, show q = n by omega])
    · rw [if_neg hl, gb_ly ha n (by omega) z hz]
      constructor
      · rintro ⟨q, hq, e, h⟩; exact ⟨q, by omega, e, h⟩
      · rintro ⟨q, hq, e, h⟩
        rcases Nat.lt_or_ge q n with y | y
        · exact ⟨q, y, e, h⟩
        · exact absurd (by rw [← show q = n by omega]; exact h) hl
/-- a piece lies on a lifted one of a lower cable -/
theorem lo_iff {M : Nat → Nat → Int32} {pn : Nat → Nat} {cn : Nat} {L : Int64} {b a q : Nat} (hX : IXY M cn pn) (h7 : P7 cn pn) (c8 : cn ≤ 8) (hb : b < cn) (ha : a < cn) (hq : q < pn a) : loO2 M pn L b a q = true ↔ ∃ k, k < pn b ∧ gb L (8 * b + k) = true ∧ cdM (M 42) (M 43) (8 * b + k) (8 * a + q) = true := by
  unfold loO2
  rw [anyB_iff]
  have hb7 := h7 b hb
  constructor
  · rintro ⟨k, hk, h⟩
    rw [Bool.and_eq_true, inL_gb (by omega), hX.cd hb ha hk hq] at h
    exact ⟨k, hk, h.1, h.2⟩
  · rintro ⟨k, hk, h1, h2⟩
    refine ⟨k, hk, ?_⟩
    rw [Bool.and_eq_true, inL_gb (by omega), hX.cd hb ha hk hq]
    exact ⟨h1, h2⟩
/-- the pieces that are lifted by a set of lifted ones below cable a, from cable cb on -/
def newS (M : Nat → Nat → Int32) (pn : Nat → Nat) (cb a j : Nat) (S : Nat → Prop) (z : Nat) : Prop := ∃ q, q < pn a ∧ z = 8 * a + q ∧ ∃ b k, cb ≤ b ∧ b < cb + j ∧ k < pn b ∧ S (8 * b + k) ∧ cdM (M 42) (M 43) (8 * b + k) z = true
theorem gb_lwB {M : Nat → Nat → Int32} {pn : Nat → Nat} {cn cb a : Nat} {L : Int64} (hX : IXY M cn pn) (h7 : P7 cn pn) (c8 : cn ≤ 8) (ha : a < cn) : ∀ j, cb + j ≤ a → ∀ z, z < 64 → (gb (lwB M pn cb a L j) z = true ↔ gb L z = true ∨ newS M pn cb a j (fun x => gb L x = true) z)
  | 0, _, z, _ => by
    rw [lwB]
    exact ⟨Or.inl, fun h => h.elim id (fun ⟨q, _, _, b, k, h1, h2, _⟩ => by omega)⟩
  | j + 1, hj, z, hz => by
    have ih := gb_lwB hX h7 c8 ha (L := L) (cb := cb) j (by omega)
    have ha7 := h7 a ha
    have hb7 := h7 (cb + j) (by omega)
    rw [lwB, gb_or, Bool.or_eq_true, ih z hz, gb_ly (by omega) (pn a) (by omega) z hz]
    have low : ∀ k, k < pn (cb + j) → (gb (lwB M pn cb a L j) (8 * (cb + j) + k) = true ↔ gb L (8 * (cb + j) + k) = true) := by
      intro k hk
      rw [ih _ (by omega)]
      exact ⟨fun h => h.elim id (fun ⟨q, hq, e, _⟩ => by omega), Or.inl⟩
    constructor
    · rintro ((h | ⟨q, hq, e, b, k, h1, h2, h3, h4, h5⟩) | ⟨q, hq, e, h⟩)
      · exact Or.inl h
      · exact Or.inr ⟨q, hq, e, b, k, h1, by omega, h3, h4, h5⟩
      · obtain ⟨k, hk, h1, h2⟩ := (lo_iff hX h7 c8 (show cb + j < cn by omega) ha hq).mp h
        exact Or.inr ⟨q, hq, e, cb + j, k, by omega, by omega, hk, (low k hk).mp h1, by rw [e]; exact h2⟩
    · rintro (h | ⟨q, hq, e, b, k, h1, h2, h3, h4, h5⟩)
      · exact Or.inl (Or.inl h)
      · rcases Nat.lt_or_ge b (cb + j) with y | y
        · exact Or.inl (Or.inr ⟨q, hq, e, b, k, h1, y, h3, h4, h5⟩)
        · have hbj : b = cb + j := by omega
          subst hbj
          refine Or.inr ⟨q, hq, e, (lo_iff hX h7 c8 (show cb + j < cn by omega) ha hq).mpr ⟨k, h3, (low k h3).mpr h4, by rw [← e]; exact h5⟩⟩
