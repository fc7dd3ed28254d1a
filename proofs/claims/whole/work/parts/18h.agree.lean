/-! An agreement. -/
theorem bpO_ext {M M' : Nat → Nat → Int32} {cn : Nat} (h2 : M' 2 = M 2) (h4 : M' 4 = M 4) : ∀ b, bpO M' cn b = bpO M cn b
  | 0 => rfl
  | b + 1 => by
    simp only [bpO]
    rw [bpO_ext h2 h4 b]
    congr 1
    refine cntB_ext _ (fun t _ => ?_)
    unfold baO
    rw [h2, h4]
theorem pr_comm (i j : Nat) : pr i j = pr j i := by unfold pr; omega
theorem pr_inj {p q i j : Nat} (hp : p < 8) (hq : q < 8) (hi : i < 8) (hj : j < 8) (h : pr p q = pr i j) : (p = i ∧ q = j) ∨ (p = j ∧ q = i) := by unfold pr at h; omega
/-- one agreement more or less, on both sides -/
theorem IAg.set {M M' : Nat → Nat → Int32} (h : IAg M) {i j : Nat} (hi : i < 8) (hj : j < 8) (hij : i ≠ j) {v : Int32} (hv : v = 0 ∨ v = 1) (h4 : M' 4 = upd (M 4) (pr i j) v) (h44 : M' 44 = upd (upd (M 44) (8 * i + j) v) (8 * j + i) v) : IAg M' := by
  refine ⟨fun p q hp hq => ?_, fun k hk => ?_, fun p hp => ?_⟩
  · rw [h4, h44]
    simp only [upd]
    by_cases e : pr p q = pr i j
    · rw [if_pos e]
      rcases pr_inj hp hq hi hj e with ⟨rfl, rfl⟩ | ⟨rfl, rfl⟩
      · by_cases z : 8 * p + q = 8 * q + p
        · rw [if_pos z]
        · rw [if_neg z, if_pos rfl]
      · rw [if_pos rfl]
    · have n1 : ¬ 8 * p + q = 8 * j + i := fun z => e (by
        have a : p = j := by omega
        have b : q = i := by omega
        rw [a, b, pr_comm])
      have n2 : ¬ 8 * p + q = 8 * i + j := fun z => e (by
        have a : p = i := by omega
        have b : q = j := by omega
        rw [a, b])
      rw [if_neg e, if_neg n1, if_neg n2]
      exact h.1 p q hp hq
  · rw [h4]
    simp only [upd]
    split
    · exact hv
    · exact h.2.1 k hk
  · rw [h44]
    simp only [upd]
    rw [if_neg (by omega), if_neg (by omega)]
    exact h.2.2 p hp
theorem st_agree {M : Nat → Nat → Int32} {cn gn dn : Nat} {pn : Nat → Nat} (h : Inv M cn gn dn pn) (a b : Int32) : St_agree M cn gn dn pn a b := by
  obtain ⟨MF, hMF⟩ : ∃ MF, MF = oM_agree M cn gn dn pn a b := ⟨_, rfl⟩
  unfold St_agree
  rw [← hMF]
  have c8 := h.o.c8
  cases hb : c2M cn a b with
  | false =>
    have he : erAg M cn a b = some eX := by rw [erAg, erCC_cb c8, hb]; rfl
    have hc : cdAg MF cn pn a b = 1 := by rw [cdAg, if_pos hb]
    unfold mM_agree mV_agree oK_agree
    rw [hc]
    exact ref_no h (by decide) he hMF rfl
  | true =>
    obtain ⟨i, j, hi, rfl, hj, rfl⟩ := c2M_true c8 hb
    have ti : tn (nI i) = i := tn_nI (by omega)
    have tj : tn (nI j) = j := tn_nI (by omega)
    have hag := h.ag i j (by omega) (by omega)
    have hwe := h.we hi hj
    by_cases hm : M 44 (8 * i + j) = 0 ∧ wnM M pn i j = true
    · have he : erAg M cn (nI i) (nI j) = none := by
        rw [erAg, erCC_cb c8, hb, if_pos rfl, ti, tj, hwe, hag, if_neg]
        · rfl
        · rintro (z | z)
          · rw [hm.2] at z; cases z
          · exact z hm.1
      unfold oM_agree at hMF
      rw [if_pos he, ti, tj] at hMF
      have hO := h.o
      have hM := h.m
      have rr : ∀ q, q ≠ 56 → q ≠ 4 → MF q = M q := fun q x y => by rw [hMF, up2_ne _ _ _ x, up2_ne _ _ _ y]
      have hOM : OkM MF cn gn dn pn := hM.keep (fun k _ _ => by rw [rr 38 (by decide) (by decide)]) (rr 41 (by decide) (by decide))
      have hc : cdAg MF cn pn (nI i) (nI j) = 0 := by
        rw [cdAg, if_neg (by rw [hb]; decide), ti, tj, rr 44 (by decide) (by decide), wnM_ext (rr 42 (by decide) (by decide)) (rr 43 (by decide) (by decide)), if_pos hm]
      have hij : i ≠ j := by
        intro z
        subst z
        have := hm.2
        unfold wnM at this
        rw [crM_self] at this
        cases this
      unfold mM_agree mV_agree oK_agree
      rw [hc, he, if_pos rfl, if_pos rfl, ti, tj]
      have e : ∀ M2, M2 = agM (up2 MF 38 0 0) i j 1 → M2 38 0 = 0 ∧ nI (bnM M2 pn cn) = M2 56 0 ∧ Inv M2 cn gn dn pn := by
        intro M2 hM2
        have r2 : ∀ q, q ≠ 38 → q ≠ 44 → M2 q = MF q := fun q x y => by rw [hM2, agM, up2_ne _ _ _ y, up2_ne _ _ _ y, up2_ne _ _ _ x]
        have r3 : ∀ q, q ≠ 38 → q ≠ 44 → q ≠ 56 → q ≠ 4 → M2 q = M q := fun q x y z w => (r2 q x y).trans (rr q z w)
        have w38 : ∀ k, k ≠ 0 → M2 38 k = M 38 k := fun k x => by rw [hM2, agM, up2_ne _ _ _ (by decide), up2_ne _ _ _ (by decide), up2_off _ _ _ x, rr 38 (by decide) (by decide)]
        have x4 : M2 4 = upd (M 4) (pr i j) 1 := by rw [r2 4 (by decide) (by decide), hMF, up2_ne _ _ _ (by decide), up2_self]
        have x44 : M2 44 = upd (upd (M 44) (8 * i + j) 1) (8 * j + i) 1 := by rw [hM2, agM, up2_self, up2_self, up2_ne _ _ _ (by decide), rr 44 (by decide) (by decide)]
        have hA2 : IAg M2 := h.ga.set (by omega) (by omega) hij (Or.inr rfl) x4 x44
        have hC2 : ICr M2 cn pn := h.cr.k (r3 2 (by decide) (by decide) (by decide) (by decide)) (r3 3 (by decide) (by decide) (by decide) (by decide)) (r3 42 (by decide) (by decide) (by decide) (by decide)) (r3 43 (by decide) (by decide) (by decide) (by decide))
        refine ⟨?_, ?_, Inv.of (hO.keep (r3 0 (by decide) (by decide) (by decide) (by decide)) (fun i hi => r3 _ (by omega) (by omega) (by omega) (by omega))) (hM.keep (fun k x _ => w38 k x) (r3 41 (by decide) (by decide) (by decide) (by decide))) (IXY.k (M := M) h.xy (fun i hi => ⟨r3 _ (by omega) (by omega) (by omega) (by omega), r3 _ (by omega) (by omega) (by omega) (by omega)⟩) (r3 42 (by decide) (by decide) (by decide) (by decide)) (r3 43 (by decide) (by decide) (by decide) (by decide))) (IDr.k (M := M) h.dr (r3 36 (by decide) (by decide) (by decide) (by decide)) (r3 37 (by decide) (by decide) (by decide) (by decide)) (r3 39 (by decide) (by decide) (by decide) (by decide)) (r3 40 (by decide) (by decide) (by decide) (by decide))) hA2 hC2 (h.gr.k hO.g5 (fun g hg => r3 _ (by omega) (by omega) (by omega) (by omega)) (fun q x y => r3 q (by omega) (by omega) (by omega) (by omega))) (h.re.k (by rw [r3 0 (by decide) (by decide) (by decide) (by decide)]) (w38 19 (by decide)))⟩
        · rw [hM2, agM, up2_ne _ _ _ (by decide), up2_ne _ _ _ (by decide), up2_at]
        · rw [← bare_eq (M := M2) c8 hA2.1 (fun p q hp hq hpq => (hC2.1 p q hp hq hpq).1) (fun p q hp hq => h.c49 _ _ hp hq)]
          rw [r2 56 (by decide) (by decide), hMF, up2_at]
          rw [bpO_ext (M := up2 M 4 (pr i j) 1) (M' := M2) (by rw [r3 2 (by decide) (by decide) (by decide) (by decide), up2_ne _ _ _ (by decide)]) (by rw [x4, up2_self])]
      obtain ⟨e1, e2, e3⟩ := e _ rfl
      exact ⟨hOM, e1, fun _ => e2, cn, gn, dn, pn, e3⟩
    · have he : erAg M cn (nI i) (nI j) = some eI := by
        rw [erAg, erCC_cb c8, hb, if_pos rfl, ti, tj, hwe, hag, if_pos]
        · rfl
        · by_cases z : M 44 (8 * i + j) = 0
          · left
            cases hw : wnM M pn i j with
            | false => rfl
            | true => exact absurd ⟨z, hw⟩ hm
          · exact Or.inr z
      have hMF' := hMF
      unfold oM_agree at hMF'
      rw [if_neg (by rw [he]; exact fun z => nomatch z)] at hMF'
      have hc : cdAg MF cn pn (nI i) (nI j) = 2 := by rw [cdAg, if_neg (by rw [hb]; decide), ti, tj, hMF', if_neg hm]
      unfold mM_agree mV_agree oK_agree
      rw [hc]
      exact ref_no h (by decide) he hMF rfl
