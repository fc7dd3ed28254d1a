/-! Errors and codes: the office's names of exceptions and the model's numbers. -/
theorem nn0 {j : Nat} (h : j < 2 ^ 31) : ¬ (nI j < 0) := Int32.not_lt.mpr (nI_pos' h)
theorem ix_iff {n : Nat} (hn : n + 1 < 2 ^ 31) {q : Int32} : (q < 0 ∨ ¬ q < nI (n + 1)) ↔ inI q 0 (nI n) = false := by
  by_cases h : q < 0
  · simp [inI, h]
  · obtain ⟨j, hj, rfl⟩ := nI_of h
    have e1 : (nI j < nI (n + 1)) ↔ j < n + 1 := nI_ltI hj hn
    have e2 : (nI n < nI j) ↔ n < j := nI_ltI (by omega) hj
    simp only [inI, h, decide_false, Bool.not_false, Bool.true_and, false_or, e1, e2, Bool.not_eq_false', decide_eq_true_eq]
    omega
theorem ite_of {p : Prop} [Decidable p] {b : Bool} {e : String} (h : p ↔ b = false) : (if p then some e else none) = if b = true then none else some e := by
  cases b <;> simp_all
theorem cb_iff {cn : Nat} (hn : cn ≤ 8) {a : Int32} : (a < 0 ∨ ¬ a < nI cn) ↔ cbM cn a = false := by
  rcases Nat.eq_zero_or_pos cn with q | q
  · subst q
    by_cases h : a < 0
    · simp [cbM, inI, h]
    · obtain ⟨j, hj, rfl⟩ := nI_of h
      have e1 : (nI j < nI 0) ↔ j < 0 := nI_ltI hj (by omega)
      have e2 : nI 0 - 1 < nI j := Int32.lt_of_lt_of_le (b := 0) (by decide) (nI_pos' hj)
      simp [cbM, inI, e1, e2]
  · obtain ⟨k, rfl⟩ : ∃ k, cn = k + 1 := ⟨cn - 1, by omega⟩
    rw [cbM, show nI (k + 1) - 1 = nI k from nI_pred k]
    exact ix_iff (by omega)
theorem erC_cb {cn : Nat} (hn : cn ≤ 8) (a : Int32) : erC cn a = if cbM cn a = true then none else some eX := ite_of (cb_iff hn)
theorem erCC_cb {cn : Nat} (hn : cn ≤ 8) (a b : Int32) : erCC cn a b = if c2M cn a b = true then none else some eX := by
  rw [erCC, erC_cb hn, erC_cb hn, c2M]
  cases cbM cn a <;> cases cbM cn b <;> rfl
theorem erPt_cb {cn : Nat} {pn : Nat → Nat} (hn : cn ≤ 8) (hp : P7 cn pn) (a q : Int32) : erPt cn pn a q = if ptM cn pn a q = true then none else some eX := by
  rw [erPt, erC_cb hn, ptM]
  cases h : cbM cn a with
  | false => rfl
  | true =>
    obtain ⟨j, hj, rfl⟩ := cbM_true hn h
    have h7 := hp j hj
    rw [tn_nI (by omega), Bool.true_and]
    exact ite_of (ix_iff (by omega))
theorem erPc_cb {cn : Nat} {pn : Nat → Nat} (hn : cn ≤ 8) (hp : P7 cn pn) (a q : Int32) : erPc cn pn a q = if pcM cn pn a q = true then none else some eX := by
  rw [erPc, erC_cb hn, pcM]
  cases h : cbM cn a with
  | false => rfl
  | true =>
    obtain ⟨j, hj, rfl⟩ := cbM_true hn h
    have h7 := hp j hj
    rw [tn_nI (by omega), Bool.true_and]
    obtain ⟨k, hk⟩ : ∃ k, pn j = k + 1 := ⟨pn j - 1, by omega⟩
    rw [hk, show k + 1 + 1 - 2 = k by omega]
    exact ite_of (ix_iff (by omega))
theorem i32_nle {a b : Int32} : ¬ a ≤ b ↔ b < a := Int32.not_le
theorem erPl_cb (px py : Int32) : erPl px py = if plM px py = true then none else some eA := by
  refine ite_of ?_
  simp only [plM, inI, Int32.not_le, Bool.and_eq_false_iff, Bool.not_eq_false', decide_eq_true_eq]
  constructor
  · rintro (h | h | h | h)
    · exact Or.inl (Or.inl h)
    · exact Or.inl (Or.inr h)
    · exact Or.inr (Or.inl h)
    · exact Or.inr (Or.inr h)
  · rintro ((h | h) | (h | h))
    · exact Or.inl h
    · exact Or.inr (Or.inl h)
    · exact Or.inr (Or.inr (Or.inl h))
    · exact Or.inr (Or.inr (Or.inr h))
theorem erMo_cb (mo : Int32) : erMo mo = if moM mo = true then none else some eA := by
  refine ite_of ?_
  simp only [moM, inI, Int32.not_le, Bool.and_eq_false_iff, Bool.not_eq_false', decide_eq_true_eq]
theorem crM_ext {bb : Bool} {M M' : Nat → Nat → Int32} {pn : Nat → Nat} (h1 : M' 42 = M 42) (h2 : M' 43 = M 43) (i j : Nat) : crM bb M' pn i j = crM bb M pn i j := by
  unfold crM; rw [h1, h2]
theorem Inv.keep {M M' : Nat → Nat → Int32} {cn gn dn : Nat} {pn : Nat → Nat} (h : Inv M cn gn dn pn) (hk : ∀ q, q ≠ 38 → q < 54 → M' q = M q) (h38 : ∀ k, k ≠ 0 → M' 38 k = M 38 k) : Inv M' cn gn dn pn := by
  obtain ⟨hO, hM, hXY, hD, ⟨hA1, hA2, hA3⟩, ⟨hC1, hC2⟩, ⟨hG1, hG2⟩, hr1, hr2⟩ := h
  have c8 := hO.c8
  have g5 := hO.g5
  refine ⟨hO.keep (hk 0 (by decide) (by decide)) (fun i hi => hk _ (by omega) (by omega)), hM.keep (fun k hk0 _ => h38 k hk0) (hk 41 (by decide) (by decide)), ?_, ?_, ⟨?_, ?_, ?_⟩, ⟨?_, ?_⟩, ⟨?_, ?_⟩, ?_, ?_⟩
  · intro i hi k hik
    rw [hk (11 + 3 * i + 1) (by omega) (by omega), hk (11 + 3 * i + 2) (by omega) (by omega), hk 42 (by decide) (by decide), hk 43 (by decide) (by decide)]
    exact hXY i hi k hik
  · intro k hkd
    rw [hk (11 + 3 * 8 + 1) (by decide) (by decide), hk (11 + 3 * 8 + 2) (by decide) (by decide), hk 39 (by decide) (by decide), hk 40 (by decide) (by decide)]
    exact hD k hkd
  · rw [hk 4 (by decide) (by decide), hk 44 (by decide) (by decide)]; exact hA1
  · rw [hk 4 (by decide) (by decide)]; exact hA2
  · rw [hk 44 (by decide) (by decide)]; exact hA3
  · intro i j hi hj hij
    rw [hk 2 (by decide) (by decide), hk 3 (by decide) (by decide), crM_ext (hk 42 (by decide) (by decide)) (hk 43 (by decide) (by decide)), crM_ext (hk 42 (by decide) (by decide)) (hk 43 (by decide) (by decide))]
    exact hC1 i j hi hj hij
  · rw [hk 2 (by decide) (by decide)]; exact hC2
  · intro g hg
    rw [hk (6 + g) (by omega) (by omega), hk 45 (by decide) (by decide), hk 46 (by decide) (by decide), hk 47 (by decide) (by decide), hk 48 (by decide) (by decide), hk 49 (by decide) (by decide), hk 50 (by decide) (by decide)]
    exact hG1 g hg
  · intro g hg
    rw [hk (6 + g) (by omega) (by omega), hk 51 (by decide) (by decide), hk 52 (by decide) (by decide), hk 53 (by decide) (by decide)]
    exact hG2 g hg
  · rw [hk 0 (by decide) (by decide), h38 19 (by decide)]; exact hr1
  · rw [h38 19 (by decide)]; exact hr2
theorem Inv.h0 {M : Nat → Nat → Int32} {cn gn dn : Nat} {pn : Nat → Nat} (h : Inv M cn gn dn pn) (v : Int32) : Inv (up2 M 38 0 v) cn gn dn pn := h.keep (fun q hq _ => up2_ne _ _ _ hq) (fun k hk => up2_off _ _ _ hk)
theorem Inv.o56 {M : Nat → Nat → Int32} {cn gn dn : Nat} {pn : Nat → Nat} (h : Inv M cn gn dn pn) (v : Int32) : Inv (up2 M 56 0 v) cn gn dn pn := h.keep (fun q _ hq => up2_ne _ _ _ (by omega)) (fun k _ => by rw [up2_ne _ _ _ (by decide)])
theorem st_0 : Inv (fun _ _ => 0) 0 0 0 (fun _ => 0) := by
  refine ⟨⟨rfl, by decide, rfl, by decide, rfl, by decide, fun i hi => by omega⟩, ⟨rfl, by decide, rfl, by decide, rfl, by decide, fun i hi => by omega⟩, fun i hi => by omega, fun k hk => by omega, ⟨fun _ _ _ _ => rfl, fun _ _ => Or.inl rfl, fun _ _ => rfl⟩, ⟨fun i j hi => by omega, fun _ _ => rfl⟩, ⟨fun g hg => by omega, fun g hg => ⟨rfl, rfl, rfl, 0, 0, rfl, by decide, rfl, by decide⟩⟩, rfl, 0, rfl, by decide⟩
theorem mf_row {M MF : Nat → Nat → Int32} {err : Option String} {V : Int32} (h : MF = if err = none then up2 M 56 0 V else M) : ∀ q, q ≠ 56 → MF q = M q := by
  intro q hq
  rw [h]
  split
  · exact up2_ne _ _ _ hq
  · rfl
/-- a call that only asks: the office's error is the model's code, the answers are one -/
theorem ask1 {b : Bool} {E : String} {V R : Int32} {M MF : Nat → Nat → Int32} {cn gn dn : Nat} {pn : Nat → Nat} (h : Inv M cn gn dn pn) {err : Option String} (hMF : MF = if err = none then up2 M 56 0 V else M) (he : err = if b = true then none else some E) (hv : b = true → V = R) :
    OkM MF cn gn dn pn ∧ (if cd01 b = 0 then up2 MF 38 0 0 else up2 MF 38 0 (cd01 b)) 38 0 = lcd [E] err ∧ (lcd [E] err = 0 → (if cd01 b = 0 then R else 0) = (if cd01 b = 0 then up2 MF 38 0 0 else up2 MF 38 0 (cd01 b)) 56 0) ∧ Inv (if cd01 b = 0 then up2 MF 38 0 0 else up2 MF 38 0 (cd01 b)) cn gn dn pn := by
  cases b with
  | true =>
    have he : err = none := he
    rw [if_pos he] at hMF
    subst hMF
    rw [if_pos (show cd01 true = 0 from rfl), if_pos (show cd01 true = 0 from rfl), he]
    refine ⟨(h.o56 V).m, rfl, fun _ => ?_, (h.o56 V).h0 0⟩
    rw [up2_ne _ _ _ (by decide), up2_at, hv rfl]
  | false =>
    have he : err = some E := he
    rw [if_neg (by rw [he]; exact fun z => nomatch z)] at hMF
    subst hMF
    rw [if_neg (show ¬ cd01 false = 0 from by decide), he]
    refine ⟨h.m, ?_, fun z => absurd z ?_, h.h0 _⟩
    · show (1 : Int32) = lcd [E] (some E)
      simp [lcd]
    · simp [lcd]
theorem ask2 {b1 b2 : Bool} {E1 E2 : String} (hE : E1 ≠ E2) {V R : Int32} {M MF : Nat → Nat → Int32} {cn gn dn : Nat} {pn : Nat → Nat} (h : Inv M cn gn dn pn) {err : Option String} (hMF : MF = if err = none then up2 M 56 0 V else M) (he : err = orE (if b1 = true then none else some E1) (if b2 = true then none else some E2)) (hv : b1 = true → b2 = true → V = R) {C : Int32} (hC : C = if b1 = false then 1 else if b2 = true then 0 else 2) :
    OkM MF cn gn dn pn ∧ (if C = 0 then up2 MF 38 0 0 else up2 MF 38 0 C) 38 0 = lcd [E1, E2] err ∧ (lcd [E1, E2] err = 0 → (if C = 0 then R else 0) = (if C = 0 then up2 MF 38 0 0 else up2 MF 38 0 C) 56 0) ∧ Inv (if C = 0 then up2 MF 38 0 0 else up2 MF 38 0 C) cn gn dn pn := by
  cases b1 with
  | false =>
    have he : err = some E1 := he
    have hC : C = 1 := hC
    subst hC
    rw [if_neg (by rw [he]; exact fun z => nomatch z)] at hMF
    subst hMF
    rw [if_neg (show ¬ (1 : Int32) = 0 from by decide), he]
    refine ⟨h.m, ?_, fun z => absurd z ?_, h.h0 _⟩
    · rw [up2_at]; simp [lcd]
    · simp [lcd]
  | true =>
    cases b2 with
    | true =>
      have he : err = none := he
      have hC : C = 0 := hC
      subst hC
      rw [if_pos he] at hMF
      subst hMF
      rw [if_pos rfl, if_pos rfl, he]
      refine ⟨(h.o56 V).m, rfl, fun _ => ?_, (h.o56 V).h0 0⟩
      rw [up2_ne _ _ _ (by decide), up2_at, hv rfl rfl]
    | false =>
      have he : err = some E2 := he
      have hC : C = 2 := hC
      subst hC
      rw [if_neg (by rw [he]; exact fun z => nomatch z)] at hMF
      subst hMF
      rw [if_neg (show ¬ (2 : Int32) = 0 from by decide), he]
      refine ⟨h.m, ?_, fun z => absurd z ?_, h.h0 _⟩
      · rw [up2_at]; simp [lcd, hE]
      · simp [lcd, hE]
theorem bit_ite {p : Prop} [Decidable p] (b : Bool) : (if p then bI b else 0) = 0 ∨ (if p then bI b else 0) = 1 := by
  split
  · cases b
    · exact Or.inl rfl
    · exact Or.inr rfl
  · exact Or.inl rfl
