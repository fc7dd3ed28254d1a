/-! The lifting and the repair in the model: which pieces are lifted, in which order; what a repair costs. -/
def clL (M : Nat → Nat → Int32) : Nat → Nat → Nat → Int32
  | 0 => M
  | k + 1 => up2 (clL M k) 54 k 0
abbrev LSt : Type := (Nat → Nat → Int32) × Nat
def l0 (M : Nat → Nat → Int32) (y : Nat) : LSt := (up2 (up2 (clL M 64) 54 y 1) 55 0 (nI y), 1)
def liC (pn : Nat → Nat) (S : LSt) (r k : Nat) : Bool := (decide (k % 8 < pn (k / 8)) && decide (S.1 54 k = 0)) && cdM (S.1 42) (S.1 43) r k
def liI (pn : Nat → Nat) (r : Nat) (S : LSt) (k : Nat) : LSt := if liC pn S r k = true then (up2 (up2 S.1 54 k 1) 55 S.2 (nI k), S.2 + 1) else S
def liK (pn : Nat → Nat) (r b : Nat) (S : LSt) : Nat → LSt
  | 0 => S
  | t + 1 => liI pn r (liK pn r b S t) (b + t)
def rAt (S : LSt) (a : Nat) : Nat := tn (S.1 55 a)
def liA (pn : Nat → Nat) (cn : Nat) (S : LSt) : Nat → LSt
  | 0 => S
  | a + 1 => if a < (liA pn cn S a).2 then liK pn (rAt (liA pn cn S a) a) (8 * (rAt (liA pn cn S a) a / 8 + 1)) (liA pn cn S a) (8 * cn - 8 * (rAt (liA pn cn S a) a / 8 + 1)) else liA pn cn S a
def LF (M : Nat → Nat → Int32) (pn : Nat → Nat) (cn y : Nat) : LSt := liA pn cn (l0 M y) 64
def okP (cn : Nat) (pn : Nat → Nat) (k : Nat) : Prop := k < 8 * cn ∧ k % 8 < pn (k / 8)
def RowsIn (M : Nat → Nat → Int32) (cn : Nat) (pn : Nat → Nat) (n : Nat) : Prop := ∀ t, t < n → ∃ r, M 55 t = nI r ∧ okP cn pn r
def LInv (M : Nat → Nat → Int32) (pn : Nat → Nat) (cn : Nat) (S : LSt) : Prop :=
  (∀ q, q ≠ 54 → q ≠ 55 → S.1 q = M q) ∧ S.2 = cntB (fun k => !decide (S.1 54 k = 0)) 64 ∧
  (∀ k, k < 64 → S.1 54 k ≠ 0 → okP cn pn k) ∧ (∀ t, t < S.2 → ∃ r, S.1 55 t = nI r ∧ okP cn pn r ∧ S.1 54 r ≠ 0) ∧
  (∀ k, k < 64 → S.1 54 k ≠ 0 → ∃ t, t < S.2 ∧ S.1 55 t = nI k)
theorem cntB_ext {f g : Nat → Bool} : ∀ n, (∀ j, j < n → g j = f j) → cntB g n = cntB f n
  | 0, _ => rfl
  | n + 1, h => by
    simp only [cntB]
    rw [cntB_ext n (fun j hj => h j (by omega)), h n (by omega)]
theorem cntB_set {f g : Nat → Bool} {k : Nat} (hf : f k = false) (hg : g k = true) (h : ∀ j, j ≠ k → g j = f j) : ∀ n, k < n → cntB g n = cntB f n + 1
  | 0, hk => by omega
  | n + 1, hk => by
    simp only [cntB]
    by_cases hkn : k = n
    · subst hkn
      rw [cntB_ext k (fun j hj => h j (by omega)), hf, hg]
      simp
    · rw [cntB_set hf hg h n (by omega), h n (fun q => hkn q.symm)]
      omega
theorem cntB_zero {f : Nat → Bool} : ∀ n, (∀ j, j < n → f j = false) → cntB f n = 0
  | 0, _ => rfl
  | n + 1, h => by
    simp only [cntB]
    rw [cntB_zero n (fun j hj => h j (by omega)), h n (by omega)]
    rfl
def P7 (cn : Nat) (pn : Nat → Nat) : Prop := ∀ i, i < cn → 1 ≤ pn i ∧ pn i ≤ 7
theorem okP_lt {cn : Nat} {pn : Nat → Nat} {k : Nat} (h8 : cn ≤ 8) (h7 : P7 cn pn) (h : okP cn pn k) : k < 63 := by
  obtain ⟨h1, h2⟩ := h
  have := h7 (k / 8) (by omega)
  omega
theorem LInv.n63 {M : Nat → Nat → Int32} {pn : Nat → Nat} {cn : Nat} {S : LSt} (h : LInv M pn cn S) (h8 : cn ≤ 8) (h7 : P7 cn pn) : S.2 ≤ 63 := by
  obtain ⟨_, h2, h3, _, _⟩ := h
  have hf : (fun k => !decide (S.1 54 k = 0)) 63 = false := by
    by_cases q : S.1 54 63 = 0
    · simp [q]
    · exact absurd (okP_lt h8 h7 (h3 63 (by omega) q)) (by omega)
  rw [h2, cntB_f (t := 63) hf]
  exact cntB_le _ _
theorem up2_at (M : Nat → Nat → Int32) (i k : Nat) (v : Int32) : up2 M i k v i k = v := by rw [up2_self]; simp [upd]
theorem up2_off (M : Nat → Nat → Int32) (i : Nat) {k j : Nat} (v : Int32) (h : j ≠ k) : up2 M i k v i j = M i j := by rw [up2_self]; simp [upd, h]
theorem liI_inv {M : Nat → Nat → Int32} {pn : Nat → Nat} {cn r k : Nat} {S : LSt} (h8 : cn ≤ 8) (h7 : P7 cn pn) (h : LInv M pn cn S) (hk : k < 8 * cn) : LInv M pn cn (liI pn r S k) := by
  unfold liI
  by_cases hc : liC pn S r k = true
  · rw [if_pos hc]
    simp only [liC, Bool.and_eq_true, decide_eq_true_eq] at hc
    obtain ⟨⟨c1, c2⟩, _⟩ := hc
    have hn := h.n63 h8 h7
    obtain ⟨i1, i2, i3, i4, i5⟩ := h
    have hok : okP cn pn k := ⟨hk, c1⟩
    have hk63 := okP_lt h8 h7 hok
    have e54 : (up2 (up2 S.1 54 k 1) 55 S.2 (nI k)) 54 = upd (S.1 54) k 1 := by rw [up2_ne _ _ _ (by decide), up2_self]
    have e55 : (up2 (up2 S.1 54 k 1) 55 S.2 (nI k)) 55 = upd (S.1 55) S.2 (nI k) := by rw [up2_self, up2_ne _ _ _ (by decide)]
    have a54 : ∀ j, j ≠ k → upd (S.1 54) k 1 j = S.1 54 j := fun j hj => by simp [upd, hj]
    have a54k : upd (S.1 54) k 1 k = 1 := by simp [upd]
    refine ⟨fun q q4 q5 => ?_, ?_, fun j hj hz => ?_, fun t ht => ?_, fun j hj hz => ?_⟩
    · show up2 (up2 S.1 54 k 1) 55 S.2 (nI k) q = M q
      rw [up2_ne _ _ _ q5, up2_ne _ _ _ q4]; exact i1 q q4 q5
    · show S.2 + 1 = cntB (fun j => !decide ((up2 (up2 S.1 54 k 1) 55 S.2 (nI k)) 54 j = 0)) 64
      rw [e54, cntB_set (f := fun j => !decide (S.1 54 j = 0)) (k := k) (by simp [c2]) (by rw [a54k]; decide) (fun j hj => by rw [a54 j hj]) 64 (by omega), ← i2]
    · by_cases hjk : j = k
      · subst hjk; exact hok
      · refine i3 j hj ?_
        rw [← a54 j hjk, ← e54]; exact hz
    · show ∃ r, (up2 (up2 S.1 54 k 1) 55 S.2 (nI k)) 55 t = nI r ∧ okP cn pn r ∧ (up2 (up2 S.1 54 k 1) 55 S.2 (nI k)) 54 r ≠ 0
      rw [e54, e55]
      by_cases htn : t = S.2
      · subst htn
        exact ⟨k, by simp [upd], hok, by rw [a54k]; decide⟩
      · obtain ⟨r, r1, r2, r3⟩ := i4 t (by have : t < S.2 + 1 := ht; omega)
        refine ⟨r, by simp [upd, htn, r1], r2, ?_⟩
        by_cases hrk : r = k
        · subst hrk; rw [a54k]; decide
        · rw [a54 r hrk]; exact r3
    · show ∃ t, t < S.2 + 1 ∧ (up2 (up2 S.1 54 k 1) 55 S.2 (nI k)) 55 t = nI j
      rw [e55]
      by_cases hjk : j = k
      · subst hjk; exact ⟨S.2, by omega, by simp [upd]⟩
      · obtain ⟨t, t1, t2⟩ := i5 j hj (by rw [← a54 j hjk, ← e54]; exact hz)
        exact ⟨t, by omega, by simp [upd, show ¬ t = S.2 by omega, t2]⟩
  · rw [if_neg hc]; exact h
theorem liK_inv {M : Nat → Nat → Int32} {pn : Nat → Nat} {cn r b : Nat} {S : LSt} (h8 : cn ≤ 8) (h7 : P7 cn pn) (h : LInv M pn cn S) : ∀ t, b + t ≤ 8 * cn → LInv M pn cn (liK pn r b S t)
  | 0, _ => h
  | t + 1, ht => liI_inv h8 h7 (liK_inv h8 h7 h t (by omega)) (by omega)
theorem liI_row {pn : Nat → Nat} {r k a : Nat} {S : LSt} (ha : a < S.2) : (liI pn r S k).1 55 a = S.1 55 a ∧ a < (liI pn r S k).2 := by
  unfold liI
  split
  · refine ⟨?_, by show a < S.2 + 1; omega⟩
    show up2 (up2 S.1 54 k 1) 55 S.2 (nI k) 55 a = S.1 55 a
    rw [up2_off _ _ _ (by omega), up2_ne _ _ _ (by decide)]
  · exact ⟨rfl, ha⟩
theorem liK_row {pn : Nat → Nat} {r b a : Nat} {S : LSt} (ha : a < S.2) : ∀ t, (liK pn r b S t).1 55 a = S.1 55 a ∧ a < (liK pn r b S t).2
  | 0 => ⟨rfl, ha⟩
  | t + 1 => by
    obtain ⟨h1, h2⟩ := liK_row ha (pn := pn) (r := r) (b := b) t
    obtain ⟨h3, h4⟩ := liI_row h2 (pn := pn) (r := r) (k := b + t)
    exact ⟨h3.trans h1, h4⟩
theorem liA_s {pn : Nat → Nat} {cn a r : Nat} {S : LSt} (h : a < (liA pn cn S a).2) (hr : (liA pn cn S a).1 55 a = nI r) (h31 : r < 2 ^ 31) : liA pn cn S (a + 1) = liK pn r (8 * (r / 8 + 1)) (liA pn cn S a) (8 * cn - 8 * (r / 8 + 1)) := by
  have e : rAt (liA pn cn S a) a = r := by unfold rAt; rw [hr, tn_nI h31]
  rw [liA, if_pos h, e]
theorem liA_inv {M : Nat → Nat → Int32} {pn : Nat → Nat} {cn : Nat} {S : LSt} (h8 : cn ≤ 8) (h7 : P7 cn pn) (h : LInv M pn cn S) : ∀ a, LInv M pn cn (liA pn cn S a)
  | 0 => h
  | a + 1 => by
    have ih := liA_inv h8 h7 h a
    by_cases hc : a < (liA pn cn S a).2
    · obtain ⟨r, r1, r2, _⟩ := ih.2.2.2.1 a hc
      have hr := okP_lt h8 h7 r2
      rw [liA_s hc r1 (by omega)]
      have := r2.1
      exact liK_inv h8 h7 ih _ (by omega)
    · rw [liA, if_neg hc]; exact ih
theorem liA_st {pn : Nat → Nat} {cn a : Nat} {S : LSt} (h : (liA pn cn S a).2 ≤ a) : ∀ d, liA pn cn S (a + d) = liA pn cn S a
  | 0 => rfl
  | d + 1 => by
    have ih := liA_st h d
    rw [Nat.add_succ, liA, ih, if_neg (by omega)]
theorem liA_end {pn : Nat → Nat} {cn a : Nat} {S : LSt} (h : (liA pn cn S a).2 ≤ a) (ha : a ≤ 64) : liA pn cn S a = liA pn cn S 64 := by
  have := liA_st h (64 - a)
  rw [show a + (64 - a) = 64 by omega] at this
  exact this.symm
theorem clL_ne {M : Nat → Nat → Int32} {q : Nat} (h : q ≠ 54) : ∀ k, clL M k q = M q
  | 0 => rfl
  | k + 1 => by rw [clL, up2_ne _ _ _ h, clL_ne h k]
theorem clL_0 {M : Nat → Nat → Int32} {j : Nat} : ∀ k, j < k → clL M k 54 j = 0
  | 0, h => by omega
  | k + 1, h => by
    rw [clL]
    by_cases hj : j = k
    · subst hj; exact up2_at _ _ _ _
    · rw [up2_off _ _ _ hj]; exact clL_0 k (by omega)
theorem l0_inv {M : Nat → Nat → Int32} {pn : Nat → Nat} {cn y : Nat} (h8 : cn ≤ 8) (h7 : P7 cn pn) (hy : okP cn pn y) : LInv M pn cn (l0 M y) := by
  have hy63 := okP_lt h8 h7 hy
  have e54 : (l0 M y).1 54 = upd (clL M 64 54) y 1 := by
    show up2 (up2 (clL M 64) 54 y 1) 55 0 (nI y) 54 = _
    rw [up2_ne _ _ _ (by decide), up2_self]
  have a54 : ∀ j, j < 64 → j ≠ y → (l0 M y).1 54 j = 0 := fun j hj hjy => by rw [e54]; simp [upd, hjy, clL_0 64 hj]
  have a54y : (l0 M y).1 54 y = 1 := by rw [e54]; simp [upd]
  have e55 : up2 (up2 (clL M 64) 54 y 1) 55 0 (nI y) 55 0 = nI y := up2_at _ _ _ _
  refine ⟨fun q q4 q5 => ?_, ?_, fun j hj hz => ?_, fun t ht => ?_, fun j hj hz => ?_⟩
  · show up2 (up2 (clL M 64) 54 y 1) 55 0 (nI y) q = M q
    rw [up2_ne _ _ _ q5, up2_ne _ _ _ q4]; exact clL_ne q4 64
  · show 1 = _
    have hg : ∀ j, j ≠ y → (fun k => !decide (upd (clL M 64 54) y 1 k = 0)) j = (fun k => !decide (clL M 64 54 k = 0)) j := fun j hj => by simp [upd, hj]
    rw [e54]
    rw [cntB_set (f := fun k => !decide (clL M 64 54 k = 0)) (k := y) (by simp [clL_0 (M := M) 64 (show y < 64 by omega)]) (by simp [upd]) hg 64 (by omega), cntB_zero 64 (fun j hj => by simp [clL_0 (M := M) 64 hj])]
  · by_cases hjy : j = y
    · subst hjy; exact hy
    · exact absurd (a54 j hj hjy) hz
  · have h0 : t = 0 := by have : t < 1 := ht; omega
    subst h0
    exact ⟨y, e55, hy, by rw [a54y]; decide⟩
  · by_cases hjy : j = y
    · subst hjy; exact ⟨0, Nat.zero_lt_one, e55⟩
    · exact absurd (a54 j hj hjy) hz
theorem LF_inv {M : Nat → Nat → Int32} {pn : Nat → Nat} {cn y : Nat} (h8 : cn ≤ 8) (h7 : P7 cn pn) (hy : okP cn pn y) : LInv M pn cn (LF M pn cn y) := liA_inv h8 h7 (l0_inv h8 h7 hy) 64
theorem OkM.of {M M' : Nat → Nat → Int32} {cn gn dn : Nat} {pn : Nat → Nat} (h : OkM M cn gn dn pn) (hk : ∀ q, q ≠ 54 → q ≠ 55 → M' q = M q) : OkM M' cn gn dn pn := h.keep (fun k _ _ => by rw [hk 38 (by decide) (by decide)]) (hk 41 (by decide) (by decide))
def pbM (M : Nat → Nat → Int32) (pn : Nat → Nat) (n k : Nat) : Bool := !decide (tn (M 55 (k / n)) / 8 = tn (M 55 (k % n)) / 8) && (cdM (M 42) (M 43) (tn (M 55 (k / n))) (tn (M 55 (k % n))) && brM M pn (tn (M 55 (k / n)) / 8) (tn (M 55 (k % n)) / 8))
def ipM (M : Nat → Nat → Int32) (pn : Nat → Nat) (n : Nat) : Bool := !anyB (pbM M pn n) (n * n)
def ttM (M : Nat → Nat → Int32) (g k : Nat) : Bool := toM M (tn (M 55 k)) g
def itM (M : Nat → Nat → Int32) (g : Nat) (mo : Int32) (n : Nat) : Bool := clM (M 49 g) (M 50 g) mo && anyB (ttM M g) n
def ppM (M : Nat → Nat → Int32) (n : Nat) (mo : Int32) (g : Nat) : Int32 := if itM M g mo n = true then prM (M 52 g) (M 51 g) else 0
def pdM (M : Nat → Nat → Int32) (n : Nat) (mo : Int32) (b : Bool) : Nat → Nat → Nat → Int32
  | 0 => M
  | g + 1 => up2 (pdM M n mo b g) 53 g (pdM M n mo b g 53 g + (if b = true then ppM (pdM M n mo b g) n mo g else 0))
def smM (M : Nat → Nat → Int32) (n : Nat) (mo : Int32) (b : Bool) : Nat → Int32
  | 0 => nI (10 * n)
  | g + 1 => smM M n mo b g + ppM (pdM M n mo b g) n mo g
theorem pdM_ne {M : Nat → Nat → Int32} {n q : Nat} {mo : Int32} {b : Bool} (h : q ≠ 53) : ∀ g, pdM M n mo b g q = M q
  | 0 => rfl
  | g + 1 => by rw [pdM, up2_ne _ _ _ h, pdM_ne h g]
def rpR (M : Nat → Nat → Int32) (pn : Nat → Nat) (cn gn y : Nat) (mo : Int32) (b : Bool) : Int32 := if ipM (LF M pn cn y).1 pn (LF M pn cn y).2 = true then smM (LF M pn cn y).1 (LF M pn cn y).2 mo b gn else -1
def rpM (M : Nat → Nat → Int32) (pn : Nat → Nat) (cn gn y : Nat) (mo : Int32) (b : Bool) : Nat → Nat → Int32 := if ipM (LF M pn cn y).1 pn (LF M pn cn y).2 = true then pdM (LF M pn cn y).1 (LF M pn cn y).2 mo b gn else (LF M pn cn y).1
theorem rpM_ne {M : Nat → Nat → Int32} {pn : Nat → Nat} {cn gn y q : Nat} {mo : Int32} {b : Bool} (h8 : cn ≤ 8) (h7 : P7 cn pn) (hy : okP cn pn y) (h1 : q ≠ 53) (h2 : q ≠ 54) (h3 : q ≠ 55) : rpM M pn cn gn y mo b q = M q := by
  have hI := (LF_inv (M := M) h8 h7 hy).1 q h2 h3
  unfold rpM
  split
  · rw [pdM_ne h1]; exact hI
  · exact hI
theorem rpM_ok {M : Nat → Nat → Int32} {pn : Nat → Nat} {cn gn dn y : Nat} {mo : Int32} {b : Bool} (h : OkM M cn gn dn pn) (hy : okP cn pn y) : OkM (rpM M pn cn gn y mo b) cn gn dn pn :=
  h.keep (fun k _ _ => by rw [rpM_ne h.c8 h.pp hy (by decide) (by decide) (by decide)]) (rpM_ne h.c8 h.pp hy (by decide) (by decide) (by decide))
def cdRe (M : Nat → Nat → Int32) (cn gn : Nat) (pn : Nat → Nat) (a q mo : Int32) : Int32 := if pcM cn pn a q = false then 1 else if moM mo = false then 2 else if M 38 19 = 500 ∨ rpR M pn cn gn (8 * tn a + tn q) mo false = -1 then 3 else 0
def reM (M : Nat → Nat → Int32) (cn gn : Nat) (pn : Nat → Nat) (a q mo : Int32) : Nat → Nat → Int32 := if pcM cn pn a q = false ∨ moM mo = false ∨ M 38 19 = 500 then M else rpM M pn cn gn (8 * tn a + tn q) mo false
theorem cdRe_0 {M : Nat → Nat → Int32} {cn gn : Nat} {pn : Nat → Nat} {a q mo : Int32} (h : cdRe M cn gn pn a q mo = 0) : pcM cn pn a q = true ∧ moM mo = true ∧ M 38 19 ≠ 500 ∧ rpR M pn cn gn (8 * tn a + tn q) mo false ≠ -1 := by
  unfold cdRe at h
  cases hp : pcM cn pn a q with
  | false => rw [if_pos hp] at h; exact absurd h (by decide)
  | true =>
    rw [if_neg (by simp [hp])] at h
    cases hm : moM mo with
    | false => rw [if_pos hm] at h; exact absurd h (by decide)
    | true =>
      rw [if_neg (by simp [hm])] at h
      by_cases hc : M 38 19 = 500 ∨ rpR M pn cn gn (8 * tn a + tn q) mo false = -1
      · rw [if_pos hc] at h; exact absurd h (by decide)
      · exact ⟨rfl, rfl, fun z => hc (Or.inl z), fun z => hc (Or.inr z)⟩
theorem okP_of {cn j k : Nat} {pn : Nat → Nat} (h7 : P7 cn pn) (hj : j < cn) (hk : k < pn j) : okP cn pn (8 * j + k) := by
  have := h7 j hj
  refine ⟨by omega, ?_⟩
  rw [show (8 * j + k) / 8 = j by omega]
  omega
