/-! The set of lifted pieces, cable by cable. -/
def lfS (M : Nat → Nat → Int32) (pn : Nat → Nat) (cb y : Nat) : Nat → Nat → Prop
  | 0, z => z = y
  | t + 1, z => lfS M pn cb y t z ∨ newS M pn cb (cb + 1 + t) (t + 1) (lfS M pn cb y t) z
theorem newS_ext {M : Nat → Nat → Int32} {pn : Nat → Nat} {cb a j : Nat} {S T : Nat → Prop} (h : ∀ b k, cb ≤ b → b < cb + j → k < pn b → (S (8 * b + k) ↔ T (8 * b + k))) (z : Nat) : newS M pn cb a j S z ↔ newS M pn cb a j T z := by
  constructor
  · rintro ⟨q, hq, e, b, k, h1, h2, h3, h4, h5⟩; exact ⟨q, hq, e, b, k, h1, h2, h3, (h b k h1 h2 h3).mp h4, h5⟩
  · rintro ⟨q, hq, e, b, k, h1, h2, h3, h4, h5⟩; exact ⟨q, hq, e, b, k, h1, h2, h3, (h b k h1 h2 h3).mpr h4, h5⟩
theorem gb_lwA {M : Nat → Nat → Int32} {pn : Nat → Nat} {cn cb q : Nat} (hX : IXY M cn pn) (h7 : P7 cn pn) (c8 : cn ≤ 8) (hc : cb < cn) (hq : q < pn cb) : ∀ t, cb + 1 + t ≤ cn → ∀ z, z < 64 → (gb (lwA M pn cb q t) z = true ↔ lfS M pn cb (8 * cb + q) t z)
  | 0, _, z, hz => by
    have := h7 cb hc
    rw [lwA, gb_bit (by omega) hz, decide_eq_true_eq]
    exact eq_comm
  | t + 1, ht, z, hz => by
    have ih := gb_lwA hX h7 c8 hc hq t (by omega)
    rw [lwA, gb_lwB hX h7 c8 (by omega) (t + 1) (by omega) z hz, ih z hz]
    refine or_congr Iff.rfl (newS_ext (fun b k h1 h2 h3 => ?_) z)
    have := h7 b (by omega)
    exact ih _ (by omega)
/-- lifted with y: a set closed upwards, and nothing more -/
theorem lfS_ok {M : Nat → Nat → Int32} {pn : Nat → Nat} {cn cb y : Nat} (hc : cb < cn) (hy : okP cn pn y) (hy8 : y / 8 = cb) (h7 : P7 cn pn) : ∀ t, cb + 1 + t ≤ cn → ∀ z, lfS M pn cb y t z → okP cn pn z ∧ cb ≤ z / 8 ∧ z / 8 ≤ cb + t
  | 0, _, z, h => by
    have h : z = y := h
    subst h
    exact ⟨hy, by omega, by omega⟩
  | t + 1, ht, z, h => by
    rcases h with h | ⟨q, hq, e, b, k, h1, h2, h3, h4, h5⟩
    · obtain ⟨a, b, c⟩ := lfS_ok hc hy hy8 h7 t (by omega) z h
      exact ⟨a, b, by omega⟩
    · have := h7 (cb + 1 + t) (by omega)
      subst e
      exact ⟨okP_of h7 (by omega) hq, by omega, by omega⟩
theorem lfS_mono {M : Nat → Nat → Int32} {pn : Nat → Nat} {cb y t z : Nat} (h : lfS M pn cb y t z) : ∀ d, lfS M pn cb y (t + d) z
  | 0 => h
  | d + 1 => Or.inl (lfS_mono h d)
theorem lfS_below {M : Nat → Nat → Int32} {pn : Nat → Nat} {cn cb y : Nat} (h7 : P7 cn pn) : ∀ t, cb + 1 + t ≤ cn → ∀ s, s ≤ t → ∀ z, z / 8 ≤ cb + s → lfS M pn cb y t z → lfS M pn cb y s z
  | 0, _, s, hs, z, _, h => by rw [show s = 0 by omega]; exact h
  | t + 1, ht, s, hs, z, hz, h => by
    rcases Nat.lt_or_ge t s with x | x
    · rw [show s = t + 1 by omega]; exact h
    · rcases h with h | ⟨q, hq, e, _⟩
      · exact lfS_below h7 t (by omega) s x z hz h
      · have := h7 (cb + 1 + t) (by omega)
        omega
/-- closed: what a lifted piece's crossing on a higher cable asks for -/
theorem lfS_closed {M : Nat → Nat → Int32} {pn : Nat → Nat} {cn cb y : Nat} (hc : cb < cn) (hy : okP cn pn y) (hy8 : y / 8 = cb) (h7 : P7 cn pn) {x z : Nat} (hx : lfS M pn cb y (cn - (cb + 1)) x) (hz : okP cn pn z) (hlt : x / 8 < z / 8) (hcd : cdM (M 42) (M 43) x z = true) : lfS M pn cb y (cn - (cb + 1)) z := by
  obtain ⟨hxo, hx1, hx2⟩ := lfS_ok hc hy hy8 h7 _ (by omega) x hx
  obtain ⟨z1, z2⟩ := hz
  have hs : cb + 1 + (z / 8 - (cb + 1)) = z / 8 := by omega
  have hx' := lfS_below h7 (cn - (cb + 1)) (by omega) (z / 8 - (cb + 1)) (by omega) x (by omega) hx
  have hn : lfS M pn cb y (z / 8 - (cb + 1) + 1) z := by
    right
    refine ⟨z % 8, by rw [hs]; exact z2, by rw [hs]; omega, x / 8, x % 8, hx1, by omega, hxo.2, ?_, ?_⟩
    · rw [show 8 * (x / 8) + x % 8 = x by omega]; exact hx'
    · rw [show 8 * (x / 8) + x % 8 = x by omega]; exact hcd
  have := lfS_mono hn (cn - (cb + 1) - (z / 8 - (cb + 1) + 1))
  rw [show z / 8 - (cb + 1) + 1 + (cn - (cb + 1) - (z / 8 - (cb + 1) + 1)) = cn - (cb + 1) by omega] at this
  exact this
