/-! The calls that only ask. -/
theorem Inv.xy {M : Nat → Nat → Int32} {cn gn dn : Nat} {pn : Nat → Nat} (h : Inv M cn gn dn pn) : ∀ i, i < cn → ∀ k, k ≤ pn i → (M (11 + 3 * i + 1) k = M 42 (8 * i + k) ∧ M (11 + 3 * i + 2) k = M 43 (8 * i + k)) ∧ (0 ≤ M 42 (8 * i + k) ∧ M 42 (8 * i + k) ≤ 99) ∧ (0 ≤ M 43 (8 * i + k) ∧ M 43 (8 * i + k) ≤ 99) := h.2.2.1
theorem Inv.ag {M : Nat → Nat → Int32} {cn gn dn : Nat} {pn : Nat → Nat} (h : Inv M cn gn dn pn) : ∀ i j, i < 8 → j < 8 → M 4 (pr i j) = M 44 (8 * i + j) := h.2.2.2.2.1.1
theorem pr_self (i : Nat) : pr i i = 9 * i := by unfold pr; omega
theorem crM_self {bb : Bool} {M : Nat → Nat → Int32} {pn : Nat → Nat} (i : Nat) : crM bb M pn i i = 0 := by unfold crM; rw [if_pos rfl]
theorem Inv.c2 {M : Nat → Nat → Int32} {cn gn dn : Nat} {pn : Nat → Nat} (h : Inv M cn gn dn pn) {i j : Nat} (hi : i < cn) (hj : j < cn) : M 2 (pr i j) = nI (crM false M pn i j) := by
  by_cases hij : i = j
  · subst hij
    rw [pr_self, crM_self]
    exact h.2.2.2.2.2.1.2 i (by have := h.o.c8; omega)
  · exact (h.2.2.2.2.2.1.1 i j hi hj hij).1
theorem Inv.we {M : Nat → Nat → Int32} {cn gn dn : Nat} {pn : Nat → Nat} (h : Inv M cn gn dn pn) {i j : Nat} (hi : i < cn) (hj : j < cn) : weO M i j = wnM M pn i j := by
  unfold weO wnM
  have h7i := h.m.pp i hi
  have h7j := h.m.pp j hj
  by_cases hij : i = j
  · subst hij
    rw [h.c2 hi hi, crM_self, crM_self]
    rfl
  · obtain ⟨e1, e2⟩ := h.2.2.2.2.2.1.1 i j hi hj hij
    have l1 : crM false M pn i j ≤ 49 := crM_le h7i.2 h7j.2
    have l2 : crM true M pn i j ≤ 49 := crM_le h7i.2 h7j.2
    rw [e1, e2]
    generalize crM false M pn i j = c at *
    generalize crM true M pn i j = s at *
    have z1 : (nI c ≤ 0) ↔ c = 0 := by
      constructor
      · intro z
        rcases Nat.eq_zero_or_pos c with q | q
        · exact q
        · exact absurd z (nI_nle q (by omega))
      · intro z; subst z; decide
    have z2 : (nI s = nI c) ↔ s = c := nI_eq (by omega) (by omega)
    simp only [z1, z2]
    by_cases hs : s = c
    · subst hs; rfl
    · simp [hs]
theorem st_point {M : Nat → Nat → Int32} {cn gn dn : Nat} {pn : Nat → Nat} (h : Inv M cn gn dn pn) (a q : Int32) : St_point M cn gn dn pn a q := by
  obtain ⟨MF, hMF⟩ : ∃ MF, MF = oM_point M cn gn dn pn a q := ⟨_, rfl⟩
  have hq := mf_row (h := (hMF : MF = if _ then _ else _))
  unfold St_point
  rw [← hMF]
  obtain ⟨A1, A2, A3, A4⟩ := ask1 (R := 100 * MF 42 (8 * tn a + tn q) + MF 43 (8 * tn a + tn q)) h hMF (erPt_cb h.o.c8 h.m.pp a q) (fun hb => by
    obtain ⟨j, k, hj, rfl, hk, rfl⟩ := ptM_true h.o.c8 h.m.pp hb
    have h7 := h.m.pp j hj
    have c8 := h.o.c8
    rw [tn_nI (by omega), tn_nI (by omega), hq 42 (by decide), hq 43 (by decide)]
    obtain ⟨⟨e1, e2⟩, _⟩ := h.xy j hj k (by omega)
    unfold rX rY
    rw [e1, e2])
  exact ⟨A1, A2, A3, cn, gn, dn, pn, A4⟩
theorem st_crossings {M : Nat → Nat → Int32} {cn gn dn : Nat} {pn : Nat → Nat} (h : Inv M cn gn dn pn) (a b : Int32) : St_crossings M cn gn dn pn a b := by
  obtain ⟨MF, hMF⟩ : ∃ MF, MF = oM_crossings M cn gn dn pn a b := ⟨_, rfl⟩
  have hq := mf_row (h := (hMF : MF = if _ then _ else _))
  unfold St_crossings
  rw [← hMF]
  obtain ⟨A1, A2, A3, A4⟩ := ask1 (R := nI (crM false MF pn (tn a) (tn b))) h hMF (erCC_cb h.o.c8 a b) (fun hb => by
    have c8 := h.o.c8
    obtain ⟨j, k, hj, rfl, hk, rfl⟩ := c2M_true h.o.c8 hb
    rw [tn_nI (by omega), tn_nI (by omega), crM_ext (hq 42 (by decide)) (hq 43 (by decide))]
    exact h.c2 hj hk)
  exact ⟨A1, A2, A3, cn, gn, dn, pn, A4⟩
theorem wnM_ext {M M' : Nat → Nat → Int32} {pn : Nat → Nat} (h1 : M' 42 = M 42) (h2 : M' 43 = M 43) (i j : Nat) : wnM M' pn i j = wnM M pn i j := by
  unfold wnM; rw [crM_ext h1 h2, crM_ext h1 h2]
theorem st_isWell {M : Nat → Nat → Int32} {cn gn dn : Nat} {pn : Nat → Nat} (h : Inv M cn gn dn pn) (a b : Int32) : St_isWell M cn gn dn pn a b := by
  obtain ⟨MF, hMF⟩ : ∃ MF, MF = oM_isWell M cn gn dn pn a b := ⟨_, rfl⟩
  have hq := mf_row (h := (hMF : MF = if _ then _ else _))
  unfold St_isWell
  rw [← hMF]
  obtain ⟨A1, A2, A3, A4⟩ := ask1 (R := bI (wnM MF pn (tn a) (tn b))) h hMF (erCC_cb h.o.c8 a b) (fun hb => by
    have c8 := h.o.c8
    obtain ⟨j, k, hj, rfl, hk, rfl⟩ := c2M_true h.o.c8 hb
    rw [tn_nI (by omega), tn_nI (by omega), wnM_ext (hq 42 (by decide)) (hq 43 (by decide)), h.we hj hk])
  exact ⟨A1, A2, A3, bit_ite _, cn, gn, dn, pn, A4⟩
theorem st_isAgreed {M : Nat → Nat → Int32} {cn gn dn : Nat} {pn : Nat → Nat} (h : Inv M cn gn dn pn) (a b : Int32) : St_isAgreed M cn gn dn pn a b := by
  obtain ⟨MF, hMF⟩ : ∃ MF, MF = oM_isAgreed M cn gn dn pn a b := ⟨_, rfl⟩
  have hq := mf_row (h := (hMF : MF = if _ then _ else _))
  unfold St_isAgreed
  rw [← hMF]
  obtain ⟨A1, A2, A3, A4⟩ := ask1 (R := bI (!decide (MF 44 (8 * tn a + tn b) = 0))) h hMF (erCC_cb h.o.c8 a b) (fun hb => by
    have c8 := h.o.c8
    obtain ⟨j, k, hj, rfl, hk, rfl⟩ := c2M_true h.o.c8 hb
    rw [tn_nI (by omega), tn_nI (by omega), hq 44 (by decide), h.ag j k (by omega) (by omega)])
  exact ⟨A1, A2, A3, bit_ite _, cn, gn, dn, pn, A4⟩
theorem st_paid {M : Nat → Nat → Int32} {cn gn dn : Nat} {pn : Nat → Nat} (h : Inv M cn gn dn pn) (g : Int32) : St_paid M cn gn dn pn g := by
  obtain ⟨MF, hMF⟩ : ∃ MF, MF = oM_paid M cn gn dn pn g := ⟨_, rfl⟩
  have hq := mf_row (h := (hMF : MF = if _ then _ else _))
  have g5 := h.o.g5
  unfold St_paid
  rw [← hMF]
  obtain ⟨A1, A2, A3, A4⟩ := ask1 (R := MF 53 (tn g)) h hMF (erC_cb (by omega) g) (fun hb => by
    obtain ⟨j, hj, rfl⟩ := cbM_true (show gn ≤ 8 by omega) hb
    rw [tn_nI (by omega), hq 53 (by decide)]
    exact (h.2.2.2.2.2.2.1.2 j (by omega)).2.2.1)
  exact ⟨A1, A2, A3, cn, gn, dn, pn, A4⟩
theorem st_cables {M : Nat → Nat → Int32} {cn gn dn : Nat} {pn : Nat → Nat} (h : Inv M cn gn dn pn) : St_cables M cn gn dn pn := ⟨rfl, h.h0 0⟩
theorem shut_cl (f t m : Int32) : shutO f t m = clM f t m := by
  unfold shutO clM inI
  have e1 : (f ≤ m) ↔ ¬ m < f := Int32.not_lt.symm
  simp only [e1, decide_not]
theorem st_isClosed {M : Nat → Nat → Int32} {cn gn dn : Nat} {pn : Nat → Nat} (h : Inv M cn gn dn pn) (g mo : Int32) : St_isClosed M cn gn dn pn g mo := by
  obtain ⟨MF, hMF⟩ : ∃ MF, MF = oM_isClosed M cn gn dn pn g mo := ⟨_, rfl⟩
  have hq := mf_row (h := (hMF : MF = if _ then _ else _))
  have g5 := h.o.g5
  unfold St_isClosed
  rw [← hMF]
  obtain ⟨A1, A2, A3, A4⟩ := ask2 (E1 := eX) (E2 := eA) (by decide) (R := bI (clM (MF 49 (tn g)) (MF 50 (tn g)) mo)) h hMF (by rw [erC_cb (by omega), erMo_cb]) (fun hb _ => by
    obtain ⟨j, hj, rfl⟩ := cbM_true (show gn ≤ 8 by omega) hb
    rw [tn_nI (by omega), hq 49 (by decide), hq 50 (by decide)]
    obtain ⟨⟨_, _, _, _, e4, e5⟩, _⟩ := h.2.2.2.2.2.2.1.1 j hj
    rw [e4, e5, shut_cl]) rfl
  exact ⟨A1, A2, A3, bit_ite _, cn, gn, dn, pn, A4⟩
