/-! The number of set bits. -/
/-- a mask of n equal bytes -/
def mkB (c : Nat) : Nat → Nat
  | 0 => 0
  | n + 1 => c + 256 * mkB c n
theorem and_b {u v c m : Nat} (hu : u < 256) (hc : c < 256) : (u + 256 * v) &&& (c + 256 * m) = (u &&& c) + 256 * (v &&& m) := by
  have h1 : ((u + 256 * v) &&& (c + 256 * m)) % 2 ^ 8 = u &&& c := by
    rw [Nat.and_mod_two_pow]
    rw [show (u + 256 * v) % 2 ^ 8 = u by omega, show (c + 256 * m) % 2 ^ 8 = c by omega]
  have h2 : ((u + 256 * v) &&& (c + 256 * m)) / 2 ^ 8 = v &&& m := by
    rw [Nat.and_div_two_pow]
    rw [show (u + 256 * v) / 2 ^ 8 = v by omega, show (c + 256 * m) / 2 ^ 8 = m by omega]
  omega
def sA (n x : Nat) : Nat := x - ((x / 2) &&& mkB 85 n)
def sB (n x : Nat) : Nat := (sA n x &&& mkB 51 n) + ((sA n x / 4) &&& mkB 51 n)
def sD (n x : Nat) : Nat := (sB n x + sB n x / 16) &&& mkB 15 n
def pA (u : Nat) : Nat := u - ((u / 2) &&& 85)
def pB (u : Nat) : Nat := (pA u &&& 51) + ((pA u / 4) &&& 51)
def pD (u : Nat) : Nat := (pB u + pB u / 16) &&& 15
theorem pA_f : ∀ (u : Fin 256) (w : Fin 2), (u.val / 2 + 128 * w.val) &&& 85 = (u.val / 2) &&& 85 ∧ (u.val / 2) &&& 85 ≤ u.val := by decide +kernel
theorem pB_f : ∀ (u : Fin 256) (w : Fin 4), (u.val / 4 + 64 * w.val) &&& 51 = (u.val / 4) &&& 51 := by decide +kernel
theorem pC_f : ∀ (u : Fin 256), pB u.val ≤ 102 ∧ pB u.val % 16 ≤ 4 ∧ pD u.val ≤ 8 ∧ pD u.val = cntB (fun j => u.val.testBit j) 8 := by decide +kernel
theorem pD_f : ∀ (u : Fin 103) (w : Fin 5), (u.val + (u.val / 16 + 16 * w.val)) &&& 15 = (u.val + u.val / 16) &&& 15 := by decide +kernel
theorem sA_s {n u v : Nat} (hu : u < 256) : sA (n + 1) (u + 256 * v) = pA u + 256 * sA n v := by
  have h := pA_f ⟨u, hu⟩ ⟨v % 2, by omega⟩
  unfold sA pA
  rw [show (u + 256 * v) / 2 = (u / 2 + 128 * (v % 2)) + 256 * (v / 2) by omega, mkB, and_b (by omega) (by decide)]
  have h2 : u / 2 &&& 85 ≤ u := h.2
  have h1 : (u / 2 + 128 * (v % 2)) &&& 85 = u / 2 &&& 85 := h.1
  have h3 : v / 2 &&& mkB 85 n ≤ v := Nat.le_trans Nat.and_le_left (Nat.div_le_self _ _)
  rw [h1]
  omega
theorem sB_s {n u v : Nat} (hu : u < 256) : sB (n + 1) (u + 256 * v) = pB u + 256 * sB n v := by
  have hA : pA u < 256 := Nat.lt_of_le_of_lt (Nat.sub_le _ _) hu
  have h := pB_f ⟨pA u, hA⟩ ⟨sA n v % 4, by omega⟩
  have h : (pA u / 4 + 64 * (sA n v % 4)) &&& 51 = pA u / 4 &&& 51 := h
  unfold sB pB
  rw [sA_s hu]
  rw [show (pA u + 256 * sA n v) / 4 = (pA u / 4 + 64 * (sA n v % 4)) + 256 * (sA n v / 4) by omega, mkB, and_b hA (by decide), and_b (by omega) (by decide), h]
  omega
theorem sB_4 {n v : Nat} : sB n v % 16 ≤ 4 := by
  cases n with
  | zero => simp [sB, mkB]
  | succ n =>
    rw [show v = v % 256 + 256 * (v / 256) by omega, sB_s (by omega)]
    have h := (pC_f ⟨v % 256, by omega⟩).2.1
    have h : pB (v % 256) % 16 ≤ 4 := h
    omega
theorem sD_s {n u v : Nat} (hu : u < 256) : sD (n + 1) (u + 256 * v) = pD u + 256 * sD n v := by
  obtain ⟨h1, h2, _⟩ := pC_f ⟨u, hu⟩
  have h1 : pB u ≤ 102 := h1
  have h4 := sB_4 (n := n) (v := v)
  have h := pD_f ⟨pB u, by omega⟩ ⟨sB n v % 16, by omega⟩
  have h : (pB u + (pB u / 16 + 16 * (sB n v % 16))) &&& 15 = (pB u + pB u / 16) &&& 15 := h
  unfold sD pD
  rw [sB_s hu]
  rw [show pB u + 256 * sB n v + (pB u + 256 * sB n v) / 16 = (pB u + (pB u / 16 + 16 * (sB n v % 16))) + 256 * (sB n v + sB n v / 16) by omega, mkB, and_b (by omega) (by decide), h]
theorem tb_s {u v : Nat} (hu : u < 256) (n : Nat) : cntB (fun j => (u + 256 * v).testBit j) (8 + n) = pD u + cntB (fun j => v.testBit j) n := by
  obtain ⟨_, _, _, h⟩ := pC_f ⟨u, hu⟩
  have h : pD u = cntB (fun j => u.testBit j) 8 := h
  rw [cntB_add, h]
  congr 1
  · refine cntB_ext 8 (fun j hj => ?_)
    have := Nat.testBit_mod_two_pow (u + 256 * v) 8 j
    rw [show (u + 256 * v) % 2 ^ 8 = u by omega] at this
    rw [this]; simp [hj]
  · refine cntB_ext n (fun j hj => ?_)
    have := Nat.testBit_div_two_pow (n := 8) (u + 256 * v) j
    rw [show (u + 256 * v) / 2 ^ 8 = v by omega] at this
    rw [this, Nat.add_comm 8 j]
theorem pD_8 {u : Nat} (hu : u < 256) : pD u ≤ 8 := (pC_f ⟨u, hu⟩).2.2.1
/-- the last three steps gather the eight bytes -/
theorem sD_8 {x : Nat} : ∃ d0 d1 d2 d3 d4 d5 d6 d7 : Nat, (d0 ≤ 8 ∧ d1 ≤ 8 ∧ d2 ≤ 8 ∧ d3 ≤ 8 ∧ d4 ≤ 8 ∧ d5 ≤ 8 ∧ d6 ≤ 8 ∧ d7 ≤ 8) ∧ sD 8 x = d0 + 256 * (d1 + 256 * (d2 + 256 * (d3 + 256 * (d4 + 256 * (d5 + 256 * (d6 + 256 * d7)))))) ∧ cntB (fun j => x.testBit j) 64 = d0 + (d1 + (d2 + (d3 + (d4 + (d5 + (d6 + d7)))))) := by
  have st : ∀ (n : Nat) (y : Nat), sD (n + 1) y = pD (y % 256) + 256 * sD n (y / 256) := by
    intro n y
    have := sD_s (n := n) (u := y % 256) (v := y / 256) (by omega)
    rw [show y % 256 + 256 * (y / 256) = y by omega] at this
    exact this
  have tb : ∀ (n : Nat) (y : Nat), cntB (fun j => y.testBit j) (8 + n) = pD (y % 256) + cntB (fun j => (y / 256).testBit j) n := by
    intro n y
    have := tb_s (u := y % 256) (v := y / 256) (by omega) n
    rw [show y % 256 + 256 * (y / 256) = y by omega] at this
    exact this
  have b8 : ∀ y, pD (y % 256) ≤ 8 := fun y => pD_8 (by omega)
  refine ⟨_, _, _, _, _, _, _, _, ⟨b8 x, b8 (x / 256), b8 (x / 256 / 256), b8 (x / 256 / 256 / 256), b8 (x / 256 / 256 / 256 / 256), b8 (x / 256 / 256 / 256 / 256 / 256), b8 (x / 256 / 256 / 256 / 256 / 256 / 256), b8 (x / 256 / 256 / 256 / 256 / 256 / 256 / 256)⟩, ?_, ?_⟩
  · rw [st 7, st 6, st 5, st 4, st 3, st 2, st 1, st 0]
    simp only [sD, mkB, Nat.and_zero, Nat.mul_zero, Nat.add_zero]
  · rw [show (64 : Nat) = 8 + (8 + (8 + (8 + (8 + (8 + (8 + (8 + 0))))))) from rfl, tb, tb, tb, tb, tb, tb, tb, tb]
    rfl
def sH (d : Nat) : Nat :=
  let f := d + d / 256
  let g := f + f / 65536
  (g + g / 4294967296) % 128
theorem sH_c {x : Nat} : sH (sD 8 x) = cntB (fun j => x.testBit j) 64 := by
  obtain ⟨d0, d1, d2, d3, d4, d5, d6, d7, ⟨h0, h1, h2, h3, h4, h5, h6, h7⟩, e1, e2⟩ := sD_8
  rw [e1, e2]
  obtain ⟨R7, r7⟩ : ∃ R, R = d7 := ⟨_, rfl⟩
  obtain ⟨R6, r6⟩ : ∃ R, R = d6 + 256 * R7 := ⟨_, rfl⟩
  obtain ⟨R5, r5⟩ : ∃ R, R = d5 + 256 * R6 := ⟨_, rfl⟩
  obtain ⟨R4, r4⟩ : ∃ R, R = d4 + 256 * R5 := ⟨_, rfl⟩
  obtain ⟨R3, r3⟩ : ∃ R, R = d3 + 256 * R4 := ⟨_, rfl⟩
  obtain ⟨R2, r2⟩ : ∃ R, R = d2 + 256 * R3 := ⟨_, rfl⟩
  obtain ⟨R1, r1⟩ : ∃ R, R = d1 + 256 * R2 := ⟨_, rfl⟩
  rw [← r7, ← r6, ← r5, ← r4, ← r3, ← r2, ← r1]
  have f1 : (d0 + 256 * R1) / 256 = R1 := by omega
  have f2 : (d0 + 256 * R1 + R1) / 65536 = R2 + R3 := by
    clear e1 e2 r4 r5 r6 r7
    omega
  have f3 : (d0 + 256 * R1 + R1 + (R2 + R3)) / 4294967296 = R4 + R5 + R6 + R7 := by
    have : d0 + 256 * R1 + R1 + (R2 + R3) = (d0 + d1 + d2 + d3) + 256 * (d1 + d2 + d3 + d4) + 65536 * (d2 + d3 + d4 + d5) + 16777216 * (d3 + d4 + d5 + d6) + 4294967296 * (R4 + R5 + R6 + R7) := by omega
    rw [this]
    generalize R4 + R5 + R6 + R7 = W
    clear this f1 f2 e1 e2 r1 r2 r3 r4 r5 r6 r7
    omega
  simp only [sH]
  rw [f1, f2, f3]
  have : d0 + 256 * R1 + R1 + (R2 + R3) + (R4 + R5 + R6 + R7) = (d0 + (d1 + (d2 + (d3 + (d4 + (d5 + (d6 + R7))))))) + 128 * (2 * (R1 + R2 + R3 + R4 + R5 + R6 + R7)) := by omega
  rw [this]
  have hR : R7 ≤ 8 := by omega
  generalize 2 * (R1 + R2 + R3 + R4 + R5 + R6 + R7) = W
  clear this f1 f2 f3 e1 e2 r1 r2 r3 r4 r5 r6 r7
  omega
/-- a long's bits as a natural number -/
def un (L : Int64) : Nat := L.toBitVec.toNat
theorem un_sh (A : Int64) (K : UInt64) : un (A.toUInt64 >>> K).toInt64 = un A / 2 ^ (K.toNat % 64) := by
  show (A.toUInt64.toBitVec >>> (K.toBitVec % 64#64)).toNat = _
  rw [BitVec.ushiftRight_eq', BitVec.toNat_ushiftRight, Nat.shiftRight_eq_div_pow]
  rfl
theorem un_and (A B : Int64) : un (A &&& B) = un A &&& un B := by
  unfold un
  rw [Int64.toBitVec_and, BitVec.toNat_and]
theorem un_add (A B : Int64) : un (A + B) = (un A + un B) % 2 ^ 64 := by
  unfold un
  rw [Int64.toBitVec_add, BitVec.toNat_add]
theorem un_sub {A B : Int64} (h : un B ≤ un A) : un (A - B) = un A - un B := by
  unfold un at *
  rw [Int64.toBitVec_sub, BitVec.toNat_sub_of_le h]
theorem un_lt (A : Int64) : un A < 2 ^ 64 := A.toBitVec.isLt
theorem sB_le {n x : Nat} : sB n x ≤ 2 * mkB 51 n := by
  have h1 : sA n x &&& mkB 51 n ≤ mkB 51 n := Nat.and_le_right
  have h2 : (sA n x / 4) &&& mkB 51 n ≤ mkB 51 n := Nat.and_le_right
  unfold sB
  omega
theorem bcI_c (L : Int64) : bcI L = nI (cntB (gb L) 64) := by
  have e0 : cntB (gb L) 64 = cntB (fun j => (un L).testBit j) 64 := cntB_ext 64 (fun j _ => rfl)
  rw [e0, ← sH_c]
  have k1 : ((1 : Int32).toInt64.toUInt64 &&& Int64.toUInt64 63).toNat % 64 = 1 := by decide
  have k2 : ((2 : Int32).toInt64.toUInt64 &&& Int64.toUInt64 63).toNat % 64 = 2 := by decide
  have k4 : ((4 : Int32).toInt64.toUInt64 &&& Int64.toUInt64 63).toNat % 64 = 4 := by decide
  have k8 : ((8 : Int32).toInt64.toUInt64 &&& Int64.toUInt64 63).toNat % 64 = 8 := by decide
  have k16 : ((16 : Int32).toInt64.toUInt64 &&& Int64.toUInt64 63).toNat % 64 = 16 := by decide
  have k32 : ((32 : Int32).toInt64.toUInt64 &&& Int64.toUInt64 63).toNat % 64 = 32 := by decide
  have m5 : un 6148914691236517205 = mkB 85 8 := by decide
  have m3 : un 3689348814741910323 = mkB 51 8 := by decide
  have mf : un 1085102592571150095 = mkB 15 8 := by decide
  have v5 : mkB 51 8 = 3689348814741910323 := by decide
  have vf : mkB 15 8 = 1085102592571150095 := by decide
  obtain ⟨a, ha⟩ : ∃ a, L - ((L.toUInt64 >>> ((1 : Int32).toInt64.toUInt64 &&& Int64.toUInt64 63)).toInt64 &&& 6148914691236517205) = a := ⟨_, rfl⟩
  obtain ⟨b, hb⟩ : ∃ b, (a &&& 3689348814741910323) + ((a.toUInt64 >>> ((2 : Int32).toInt64.toUInt64 &&& Int64.toUInt64 63)).toInt64 &&& 3689348814741910323) = b := ⟨_, rfl⟩
  obtain ⟨d, hd⟩ : ∃ d, (b + (b.toUInt64 >>> ((4 : Int32).toInt64.toUInt64 &&& Int64.toUInt64 63)).toInt64) &&& 1085102592571150095 = d := ⟨_, rfl⟩
  obtain ⟨f, hf⟩ : ∃ f, d + (d.toUInt64 >>> ((8 : Int32).toInt64.toUInt64 &&& Int64.toUInt64 63)).toInt64 = f := ⟨_, rfl⟩
  obtain ⟨g, hg⟩ : ∃ g, f + (f.toUInt64 >>> ((16 : Int32).toInt64.toUInt64 &&& Int64.toUInt64 63)).toInt64 = g := ⟨_, rfl⟩
  obtain ⟨h, hh⟩ : ∃ h, g + (g.toUInt64 >>> ((32 : Int32).toInt64.toUInt64 &&& Int64.toUInt64 63)).toInt64 = h := ⟨_, rfl⟩
  have ea : un a = sA 8 (un L) := by
    have l : un ((L.toUInt64 >>> ((1 : Int32).toInt64.toUInt64 &&& Int64.toUInt64 63)).toInt64 &&& 6148914691236517205) = un L / 2 &&& mkB 85 8 := by
      rw [un_and, un_sh, k1, m5]
    rw [← ha, un_sub, l]
    · rfl
    · rw [l]; exact Nat.le_trans Nat.and_le_left (Nat.div_le_self _ _)
  have eb : un b = sB 8 (un L) := by
    rw [← hb, un_add, un_and, un_and, un_sh, k2, m3, ea]
    have := sB_le (n := 8) (x := un L)
    show sB 8 (un L) % 2 ^ 64 = _
    rw [v5] at this
    omega
  have ed : un d = sD 8 (un L) := by
    rw [← hd, un_and, un_add, un_sh, k4, mf, eb]
    have := sB_le (n := 8) (x := un L)
    rw [v5] at this
    have e : (sB 8 (un L) + sB 8 (un L) / 2 ^ 4) % 2 ^ 64 = sB 8 (un L) + sB 8 (un L) / 16 := by omega
    rw [e]
    rfl
  have hd8 : sD 8 (un L) ≤ mkB 15 8 := Nat.and_le_right
  rw [vf] at hd8
  have ef : un f = sD 8 (un L) + sD 8 (un L) / 256 := by
    rw [← hf, un_add, un_sh, k8, ed]; omega
  have eg : un g = un f + un f / 65536 := by
    rw [← hg, un_add, un_sh, k16]; omega
  have eh : un h = un g + un g / 4294967296 := by
    rw [← hh, un_add, un_sh, k32]; omega
  have es : sH (sD 8 (un L)) = un h % 128 := by
    rw [eh, eg, ef]; rfl
  have eq : bcI L = h.toInt32 &&& 127 := by
    rw [← hh, ← hg, ← hf, ← hd, ← hb, ← ha]
    rfl
  rw [eq, es]
  apply Int32.toBitVec_inj.mp
  apply BitVec.eq_of_toNat_eq
  rw [Int32.toBitVec_and, BitVec.toNat_and]
  have q1 : h.toInt32.toBitVec.toNat = un h % 2 ^ 32 := by
    rw [Int64.toBitVec_toInt32, BitVec.signExtend_eq_setWidth_of_le _ (by decide), BitVec.toNat_setWidth]
    rfl
  have q2 : (127 : Int32).toBitVec.toNat = 2 ^ 7 - 1 := rfl
  have q3 : (nI (un h % 128)).toBitVec.toNat = un h % 128 % 2 ^ 32 := rfl
  rw [q1, q2, q3, Nat.and_two_pow_sub_one_eq_mod]
  omega
