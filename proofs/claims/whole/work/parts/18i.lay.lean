/-! A cable is laid. -/
theorem cnX_ext {bb : Bool} {M M' : Nat → Nat → Int32} {pn : Nat → Nat} {a b : Nat} (h1 : rX M' a = rX M a) (h2 : rY M' a = rY M a) (h3 : rX M' b = rX M b) (h4 : rY M' b = rY M b) : cnX bb M' pn a b = cnX bb M pn a b := by unfold cnX; rw [h1, h2, h3, h4]
theorem rec_row {M : Nat → Nat → Int32} {pn : Nat → Nat} {a b q : Nat} (h2 : q ≠ 2) (h3 : q ≠ 3) : recM M pn a b q = M q := by rw [recM, up2_ne _ _ _ h3, up2_ne _ _ _ h2]
theorem rec_2 {M : Nat → Nat → Int32} {pn : Nat → Nat} {a b : Nat} : recM M pn a b 2 = upd (M 2) (pr a b) (nI (cnX false M pn a b)) := by rw [recM, up2_ne _ _ _ (by decide), up2_self]
theorem rec_3 {M : Nat → Nat → Int32} {pn : Nat → Nat} {a b : Nat} : recM M pn a b 3 = upd (M 3) (pr a b) (nI (cnX true M pn a b)) := by
  rw [recM, up2_self, up2_ne _ _ _ (by decide), cnX_ext (M := M)]
  all_goals first | (unfold rX; exact up2_ne _ _ _ (by omega)) | (unfold rY; exact up2_ne _ _ _ (by omega))
theorem layR_row {M : Nat → Nat → Int32} {pn : Nat → Nat} {b q : Nat} (h2 : q ≠ 2) (h3 : q ≠ 3) : ∀ k, layR M pn b k q = M q
  | 0 => rfl
  | k + 1 => by rw [layR, rec_row h2 h3, layR_row h2 h3 k]
theorem layR_cn {bb : Bool} {M : Nat → Nat → Int32} {pn : Nat → Nat} {b k a c : Nat} : cnX bb (layR M pn b k) pn a c = cnX bb M pn a c := cnX_ext (layR_row (by omega) (by omega) k) (layR_row (by omega) (by omega) k) (layR_row (by omega) (by omega) k) (layR_row (by omega) (by omega) k)
theorem pr_inj1 {b s t : Nat} (hb : b < 8) (hs : s < b) (ht : t < b) (h : pr b s = pr b t) : s = t := by unfold pr at h; omega
theorem layR_at {M : Nat → Nat → Int32} {pn : Nat → Nat} {b : Nat} (hb : b < 8) : ∀ k, k ≤ b → ∀ t, t < k → layR M pn b k 2 (pr b t) = nI (cnX false M pn b t) ∧ layR M pn b k 3 (pr b t) = nI (cnX true M pn b t)
  | 0, _, t, h => by omega
  | k + 1, hk, t, ht => by
    rw [layR, rec_2, rec_3, layR_cn, layR_cn]
    simp only [upd]
    by_cases e : pr b t = pr b k
    · have := pr_inj1 hb (show t < b by omega) (show k < b by omega) e
      subst this
      rw [if_pos rfl, if_pos rfl]
      exact ⟨rfl, rfl⟩
    · rw [if_neg e, if_neg e]
      have htk : t < k := by
        rcases Nat.lt_or_ge t k with z | z
        · exact z
        · exact absurd (by rw [show t = k by omega]) e
      exact layR_at hb k (by omega) t htk
theorem layR_off {M : Nat → Nat → Int32} {pn : Nat → Nat} {b x : Nat} : ∀ k, (∀ t, t < k → x ≠ pr b t) → layR M pn b k 2 x = M 2 x ∧ layR M pn b k 3 x = M 3 x
  | 0, _ => ⟨rfl, rfl⟩
  | k + 1, h => by
    rw [layR, rec_2, rec_3]
    simp only [upd]
    rw [if_neg (h k (by omega)), if_neg (h k (by omega))]
    exact layR_off k (fun t ht => h t (by omega))
theorem cpM_row {M : Nat → Nat → Int32} {c q : Nat} (h1 : q ≠ 42) (h2 : q ≠ 43) : ∀ k, cpM M c k q = M q
  | 0 => rfl
  | k + 1 => by rw [cpM, up2_ne _ _ _ h2, up2_ne _ _ _ h1, cpM_row h1 h2 k]
theorem cpM_at {M : Nat → Nat → Int32} {c : Nat} : ∀ k t, t < k → cpM M c k 42 (8 * c + t) = M 39 t ∧ cpM M c k 43 (8 * c + t) = M 40 t
  | 0, t, h => by omega
  | k + 1, t, ht => by
    have e42 : cpM M c (k + 1) 42 = upd (cpM M c k 42) (8 * c + k) (M 39 k) := by rw [cpM, up2_ne _ _ _ (by decide), up2_self, cpM_row (q := 39) (by decide) (by decide)]
    have e43 : cpM M c (k + 1) 43 = upd (cpM M c k 43) (8 * c + k) (M 40 k) := by rw [cpM, up2_self, up2_ne _ _ _ (by decide), up2_ne _ _ _ (by decide), cpM_row (q := 40) (by decide) (by decide)]
    rw [e42, e43]
    simp only [upd]
    by_cases e : t = k
    · subst e; rw [if_pos rfl, if_pos rfl]; exact ⟨rfl, rfl⟩
    · rw [if_neg (by omega), if_neg (by omega)]
      exact cpM_at k t (by omega)
theorem cpM_off {M : Nat → Nat → Int32} {c j : Nat} : ∀ k, (j < 8 * c ∨ 8 * c + k ≤ j) → cpM M c k 42 j = M 42 j ∧ cpM M c k 43 j = M 43 j
  | 0, _ => ⟨rfl, rfl⟩
  | k + 1, h => by
    have e42 : cpM M c (k + 1) 42 = upd (cpM M c k 42) (8 * c + k) (M 39 k) := by rw [cpM, up2_ne _ _ _ (by decide), up2_self, cpM_row (q := 39) (by decide) (by decide)]
    have e43 : cpM M c (k + 1) 43 = upd (cpM M c k 43) (8 * c + k) (M 40 k) := by rw [cpM, up2_self, up2_ne _ _ _ (by decide), up2_ne _ _ _ (by decide), cpM_row (q := 40) (by decide) (by decide)]
    rw [e42, e43]
    simp only [upd]
    rw [if_neg (by omega), if_neg (by omega)]
    exact cpM_off k (by omega)
theorem layM_row {M : Nat → Nat → Int32} {cn q : Nat} (h0 : q ≠ 0) (h1 : q ≠ 35) (h2 : q ≠ 11 + 3 * cn) (h3 : q ≠ 11 + 3 * cn + 1) (h4 : q ≠ 11 + 3 * cn + 2) : layM M cn q = M q := by
  rw [layM, up2_ne _ _ _ h0, up2_ne _ _ _ h1, takeM_ne h2 h3 h4]
theorem layM_0 {M : Nat → Nat → Int32} {cn k : Nat} (hk : k ≠ 2) : layM M cn 0 k = M 0 k := by
  rw [layM, up2_off _ _ _ hk, up2_ne _ _ _ (by omega), takeM_ne (by omega) (by omega) (by omega)]
theorem layM_xy {M : Nat → Nat → Int32} {cn k : Nat} (hc : cn < 8) (hk : k < 8) : layM M cn (11 + 3 * cn + 1) k = M 36 k ∧ layM M cn (11 + 3 * cn + 2) k = M 37 k := by
  constructor
  · rw [layM, up2_ne _ _ _ (by omega), up2_ne _ _ _ (by omega), takeM, up2_ne _ _ _ (by omega)]
    simp only [cpR]
    rw [if_neg (by omega), if_pos trivial, if_pos hk]
  · rw [layM, up2_ne _ _ _ (by omega), up2_ne _ _ _ (by omega), takeM, up2_ne _ _ _ (by omega)]
    simp only [cpR]
    rw [if_pos trivial, if_pos hk, if_neg (by omega)]
theorem st_lay {M : Nat → Nat → Int32} {cn gn dn : Nat} {pn : Nat → Nat} (h : Inv M cn gn dn pn) : St_lay M cn gn dn pn := by
  obtain ⟨MF, hMF⟩ : ∃ MF, MF = oM_lay M cn gn dn pn := ⟨_, rfl⟩
  unfold St_lay
  rw [← hMF]
  have c8 := h.o.c8
  have d8 := h.o.d8
  by_cases hz : dn < 2 ∨ cn = 8
  · have he : erLay cn dn = some eI := by rw [erLay, if_pos (hz.imp id (fun z => by omega))]
    have hc : cdLa cn dn = 1 := by rw [cdLa, if_pos hz]
    unfold mM_lay mV_lay oK_lay
    rw [hc]
    exact ref_no h (by decide) he hMF rfl
  · have h2 : 2 ≤ dn := by omega
    have h8 : cn < 8 := by omega
    have he : erLay cn dn = none := by rw [erLay, if_neg (by omega)]
    have hc : cdLa cn dn = 0 := by rw [cdLa, if_neg hz]
    unfold oM_lay at hMF
    rw [if_pos he] at hMF
    have hO := h.o
    have hM := h.m
    have rr : ∀ q, q ≠ 56 → q ≠ 2 → q ≠ 3 → MF q = layM M cn q := fun q x y z => by rw [hMF, up2_ne _ _ _ x, layR_row y z]
    have rl : ∀ q, q ≠ 56 → q ≠ 2 → q ≠ 3 → q ≠ 0 → (q < 11 ∨ 37 < q ∨ (35 < q ∧ q < 38)) → MF q = M q := fun q x y z w v => by rw [rr q x y z, layM_row w (by omega) (by omega) (by omega) (by omega)]
    have hOM : OkM MF cn gn dn pn := hM.keep (fun k _ _ => by rw [rl 38 (by decide) (by decide) (by decide) (by decide) (by decide)]) (rl 41 (by decide) (by decide) (by decide) (by decide) (by decide))
    have hOL := layR_ok (pm := pnL pn cn dn) (b := cn) (layM_ok hO h2 h8) cn
    unfold mM_lay mV_lay oK_lay
    rw [hc, he, if_pos rfl, if_pos rfl]
    have e : ∀ M2, M2 = laM MF cn dn → M2 38 0 = 0 ∧ nI cn = M2 56 0 ∧ Inv M2 (cn + 1) gn 0 (pnL pn cn dn) := by
      intro M2 hM2
      have r2 : ∀ q, q ≠ 38 → q ≠ 41 → q ≠ 42 → q ≠ 43 → M2 q = MF q := fun q x y z w => by rw [hM2, laM, up2_ne _ _ _ x, up2_ne _ _ _ x, up2_ne _ _ _ y, cpM_row z w, up2_ne _ _ _ x]
      have r3 : ∀ q, q ≠ 38 → q ≠ 41 → q ≠ 42 → q ≠ 43 → q ≠ 56 → q ≠ 2 → q ≠ 3 → q ≠ 0 → (q < 11 ∨ 37 < q ∨ (35 < q ∧ q < 38)) → M2 q = M q := fun q a b c d e f g i j => (r2 q a b c d).trans (rl q e f g i j)
      have w38 : ∀ k, k ≠ 0 → k ≠ 1 → k ≠ 4 → M2 38 k = M 38 k := fun k x y z => by rw [hM2, laM, up2_off _ _ _ z, up2_off _ _ _ y, up2_ne _ _ _ (by decide), cpM_row (by decide) (by decide), up2_off _ _ _ x, rl 38 (by decide) (by decide) (by decide) (by decide) (by decide)]
      have x41 : M2 41 = upd (M 41) cn (nI dn) := by rw [hM2, laM, up2_ne _ _ _ (by decide), up2_ne _ _ _ (by decide), up2_self, cpM_row (by decide) (by decide), up2_ne _ _ _ (by decide), rl 41 (by decide) (by decide) (by decide) (by decide) (by decide)]
      have e42 : M2 42 = cpM (up2 MF 38 0 0) cn dn 42 := by rw [hM2, laM, up2_ne _ _ _ (by decide), up2_ne _ _ _ (by decide), up2_ne _ _ _ (by decide)]
      have e43 : M2 43 = cpM (up2 MF 38 0 0) cn dn 43 := by rw [hM2, laM, up2_ne _ _ _ (by decide), up2_ne _ _ _ (by decide), up2_ne _ _ _ (by decide)]
      have f39 : up2 MF 38 0 0 39 = M 39 := by rw [up2_ne _ _ _ (by decide), rl 39 (by decide) (by decide) (by decide) (by decide) (by decide)]
      have f40 : up2 MF 38 0 0 40 = M 40 := by rw [up2_ne _ _ _ (by decide), rl 40 (by decide) (by decide) (by decide) (by decide) (by decide)]
      have f42 : up2 MF 38 0 0 42 = M 42 := by rw [up2_ne _ _ _ (by decide), rl 42 (by decide) (by decide) (by decide) (by decide) (by decide)]
      have f43 : up2 MF 38 0 0 43 = M 43 := by rw [up2_ne _ _ _ (by decide), rl 43 (by decide) (by decide) (by decide) (by decide) (by decide)]
      have rx : ∀ q, 11 ≤ q → q < 38 → M2 q = layM M cn q := fun q a b => by rw [r2 q (by omega) (by omega) (by omega) (by omega), rr q (by omega) (by omega) (by omega)]
      have hXY : IXY M2 (cn + 1) (pnL pn cn dn) := by
        intro i hi k hk
        by_cases hic : i = cn
        · subst hic
          simp only [pnL, if_true] at hk
          have hkd : k < dn := by omega
          obtain ⟨a1, a2⟩ := cpM_at (M := up2 MF 38 0 0) (c := i) dn k hkd
          rw [rx (11 + 3 * i + 1) (by omega) (by omega), rx (11 + 3 * i + 2) (by omega) (by omega), (layM_xy h8 (by omega)).1, (layM_xy h8 (by omega)).2, e42, e43, a1, a2, f39, f40]
          exact h.dr k hkd
        · have hk' : k ≤ pn i := by simpa only [pnL, if_neg hic] using hk
          have hi' : i < cn := by omega
          have h7 := hM.pp i hi'
          obtain ⟨a1, a2⟩ := cpM_off (M := up2 MF 38 0 0) (c := cn) (j := 8 * i + k) dn (by omega)
          rw [rx (11 + 3 * i + 1) (by omega) (by omega), rx (11 + 3 * i + 2) (by omega) (by omega), layM_row (q := 11 + 3 * i + 1) (by omega) (by omega) (by omega) (by omega) (by omega), layM_row (q := 11 + 3 * i + 2) (by omega) (by omega) (by omega) (by omega) (by omega), e42, e43, a1, a2, f42, f43]
          exact h.xy i hi' k hk'
      have cx : ∀ bb i j, i < 9 → j < 9 → cnX bb M2 (pnL pn cn dn) i j = cnX bb (layM M cn) (pnL pn cn dn) i j := fun bb i j hi hj => cnX_ext (rx _ (by omega) (by omega)) (rx _ (by omega) (by omega)) (rx _ (by omega) (by omega)) (rx _ (by omega) (by omega))
      have m2 : M2 2 = layR (layM M cn) (pnL pn cn dn) cn cn 2 := by rw [r2 2 (by decide) (by decide) (by decide) (by decide), hMF, up2_ne _ _ _ (by decide)]
      have m3 : M2 3 = layR (layM M cn) (pnL pn cn dn) cn cn 3 := by rw [r2 3 (by decide) (by decide) (by decide) (by decide), hMF, up2_ne _ _ _ (by decide)]
      have hnew : ∀ t, t < cn → M2 2 (pr cn t) = nI (crM false M2 (pnL pn cn dn) cn t) ∧ M2 3 (pr cn t) = nI (crM true M2 (pnL pn cn dn) cn t) := by
        intro t ht
        obtain ⟨a1, a2⟩ := layR_at (M := layM M cn) (pn := pnL pn cn dn) h8 cn (Nat.le_refl _) t ht
        rw [m2, m3, a1, a2, ← cx false cn t (by omega) (by omega), ← cx true cn t (by omega) (by omega), hXY.cn false (by omega) (by omega) (by omega), hXY.cn true (by omega) (by omega) (by omega)]
        exact ⟨rfl, rfl⟩
      have hold : ∀ i j, i < cn → j < cn → i ≠ j → M2 2 (pr i j) = nI (crM false M2 (pnL pn cn dn) i j) ∧ M2 3 (pr i j) = nI (crM true M2 (pnL pn cn dn) i j) := by
        intro i j hi hj hij
        obtain ⟨a1, a2⟩ := layR_off (M := layM M cn) (pn := pnL pn cn dn) (b := cn) (x := pr i j) cn (fun t ht z => by unfold pr at z; omega)
        have l2 : layM M cn 2 = M 2 := layM_row (by omega) (by omega) (by omega) (by omega) (by omega)
        have l3 : layM M cn 3 = M 3 := layM_row (by omega) (by omega) (by omega) (by omega) (by omega)
        obtain ⟨b1, b2⟩ := h.cr.1 i j hi hj hij
        have hc : ∀ bb, crM bb M2 (pnL pn cn dn) i j = crM bb M pn i j := by
          intro bb
          rw [← hXY.cn bb (by omega) (by omega) hij, cx bb i j (by omega) (by omega), ← h.ixy.cn bb hi hj hij]
          have p1 : pnL pn cn dn i = pn i := by simp only [pnL, if_neg (show ¬ i = cn by omega)]
          have p2 : pnL pn cn dn j = pn j := by simp only [pnL, if_neg (show ¬ j = cn by omega)]
          unfold cnX rX rY
          rw [p1, p2, layM_row (by omega) (by omega) (by omega) (by omega) (by omega), layM_row (by omega) (by omega) (by omega) (by omega) (by omega), layM_row (by omega) (by omega) (by omega) (by omega) (by omega), layM_row (by omega) (by omega) (by omega) (by omega) (by omega)]
        rw [m2, m3, a1, a2, l2, l3, b1, b2, hc, hc]
        exact ⟨rfl, rfl⟩
      refine ⟨?_, ?_, Inv.of (hOL.keep (by rw [r2 0 (by decide) (by decide) (by decide) (by decide), hMF, up2_ne _ _ _ (by decide)]) (fun i hi => by rw [r2 _ (by omega) (by omega) (by omega) (by omega), hMF, up2_ne _ _ _ (by omega)])) ⟨?_, by omega, (w38 9 (by decide) (by decide) (by decide)).trans hM.g, hM.g5, ?_, by omega, fun i hi => ?_⟩ hXY (fun k hk => absurd hk (Nat.not_lt_zero _)) (h.ga.k (r3 4 (by decide) (by decide) (by decide) (by decide) (by decide) (by decide) (by decide) (by decide) (by decide)) (r3 44 (by decide) (by decide) (by decide) (by decide) (by decide) (by decide) (by decide) (by decide) (by decide))) ⟨fun i j hi hj hij => ?_, fun i hi => ?_⟩ (h.gr.k hO.g5 (fun g hg => r3 _ (by omega) (by omega) (by omega) (by omega) (by omega) (by omega) (by omega) (by omega) (by omega)) (fun q x y => r3 q (by omega) (by omega) (by omega) (by omega) (by omega) (by omega) (by omega) (by omega) (by omega))) (h.re.k (by rw [r2 0 (by decide) (by decide) (by decide) (by decide), rr 0 (by decide) (by decide) (by decide), layM_0 (by decide)]) (w38 19 (by decide) (by decide) (by decide)))⟩
      · rw [hM2, laM, up2_off _ _ _ (by decide), up2_off _ _ _ (by decide), up2_ne _ _ _ (by decide), cpM_row (by decide) (by decide), up2_at]
      · rw [r2 56 (by decide) (by decide) (by decide) (by decide), hMF, up2_at]
      · rw [hM2, laM, up2_at]
      · rw [hM2, laM, up2_off _ _ _ (by decide), up2_at]; rfl
      · rw [x41]
        simp only [upd, pnL]
        by_cases hic : i = cn
        · rw [if_pos hic, if_pos hic]
          exact ⟨by rw [show dn - 1 + 1 = dn by omega], by omega, by omega⟩
        · rw [if_neg hic, if_neg hic]
          exact hM.2.2.2.2.2.2 i (by omega)
      · by_cases hic : i = cn
        · subst hic
          exact hnew j (by omega)
        · by_cases hjc : j = cn
          · subst hjc
            rw [pr_comm, hXY.comm false hi hj, hXY.comm true hi hj]
            exact hnew i (by omega)
          · exact hold i j (by omega) (by omega) hij
      · obtain ⟨a1, _⟩ := layR_off (M := layM M cn) (pn := pnL pn cn dn) (b := cn) (x := 9 * i) cn (fun t ht z => by unfold pr at z; omega)
        rw [m2, a1, layM_row (by omega) (by omega) (by omega) (by omega) (by omega)]
        exact h.cr.2 i hi
    obtain ⟨e1, e2, e3⟩ := e _ rfl
    exact ⟨hOM, e1, fun _ => e2, cn + 1, gn, 0, pnL pn cn dn, e3⟩
