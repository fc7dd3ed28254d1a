/-! Bits of the office's long. -/
def gb (L : Int64) (y : Nat) : Bool := L.toBitVec.getLsbD y
theorem bitL_f : ∀ y : Fin 64, (bitL y.val).toBitVec = BitVec.twoPow 64 y.val := by decide +kernel
theorem bitL_bv {y : Nat} (h : y < 64) : (bitL y).toBitVec = BitVec.twoPow 64 y := bitL_f ⟨y, h⟩
theorem gb_bit {y z : Nat} (h : y < 64) (hz : z < 64) : gb (bitL y) z = decide (y = z) := by
  unfold gb
  rw [bitL_bv h, BitVec.getLsbD_twoPow]
  by_cases e : y = z
  · subst e; simp [h]
  · simp [e]
theorem gb_or (A B : Int64) (z : Nat) : gb (A ||| B) z = (gb A z || gb B z) := by
  unfold gb
  rw [Int64.toBitVec_or, BitVec.getLsbD_or]
theorem gb_0 (z : Nat) : gb 0 z = false := by
  unfold gb
  simp
theorem lg0 (a : Int64) : (lg_cmp a 0 = 0) ↔ a = 0 := by
  constructor
  · intro h
    unfold lg_cmp at h
    by_cases x : 0 < a
    · rw [if_pos x] at h; exact absurd h (by decide)
    · rw [if_neg x] at h
      by_cases y : a = 0
      · exact y
      · rw [if_neg y] at h; exact absurd h (by decide)
  · intro h; subst h; decide
theorem inL_gb {L : Int64} {y : Nat} (h : y < 64) : inL L y = gb L y := by
  unfold inL
  cases hg : gb L y with
  | true =>
    have : ¬ (L &&& bitL y) = 0 := by
      intro z
      have e : gb (L &&& bitL y) y = true := by
        unfold gb at *
        rw [Int64.toBitVec_and, BitVec.getLsbD_and, hg, bitL_bv h, BitVec.getLsbD_twoPow]
        simp [h]
      rw [z, gb_0] at e
      cases e
    simp [lg0, this]
  | false =>
    have : (L &&& bitL y) = 0 := by
      apply Int64.toBitVec_inj.mp
      apply BitVec.eq_of_getLsbD_eq
      intro i hi
      rw [Int64.toBitVec_and, BitVec.getLsbD_and, bitL_bv h, BitVec.getLsbD_twoPow]
      by_cases e : y = i
      · subst e
        unfold gb at hg
        simp [hg]
      · simp [e]
    simp [lg0, this]
