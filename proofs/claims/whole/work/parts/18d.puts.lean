/-! The calls that write: drafts, grounds, catches. -/
def IXY (M : Nat → Nat → Int32) (cn : Nat) (pn : Nat → Nat) : Prop := ∀ i, i < cn → ∀ k, k ≤ pn i → (M (11 + 3 * i + 1) k = M 42 (8 * i + k) ∧ M (11 + 3 * i + 2) k = M 43 (8 * i + k)) ∧ (0 ≤ M 42 (8 * i + k) ∧ M 42 (8 * i + k) ≤ 99) ∧ (0 ≤ M 43 (8 * i + k) ∧ M 43 (8 * i + k) ≤ 99)
def IDr (M : Nat → Nat → Int32) (dn : Nat) : Prop := ∀ k, k < dn → (M (11 + 3 * 8 + 1) k = M 39 k ∧ M (11 + 3 * 8 + 2) k = M 40 k) ∧ (0 ≤ M 39 k ∧ M 39 k ≤ 99) ∧ (0 ≤ M 40 k ∧ M 40 k ≤ 99)
def IAg (M : Nat → Nat → Int32) : Prop := (∀ i j, i < 8 → j < 8 → M 4 (pr i j) = M 44 (8 * i + j)) ∧ (∀ i, i < 64 → M 4 i = 0 ∨ M 4 i = 1) ∧ ∀ i, i < 8 → M 44 (9 * i) = 0
def ICr (M : Nat → Nat → Int32) (cn : Nat) (pn : Nat → Nat) : Prop := (∀ i j, i < cn → j < cn → i ≠ j → M 2 (pr i j) = nI (crM false M pn i j) ∧ M 3 (pr i j) = nI (crM true M pn i j)) ∧ ∀ i, i < 8 → M 2 (9 * i) = 0
def IGr (M : Nat → Nat → Int32) (gn : Nat) : Prop := (∀ g, g < gn → (M (6 + g) 0 = M 45 g ∧ M (6 + g) 1 = M 46 g ∧ M (6 + g) 2 = M 47 g ∧ M (6 + g) 3 = M 48 g ∧ M (6 + g) 4 = M 49 g ∧ M (6 + g) 5 = M 50 g) ∧ (0 ≤ M 45 g ∧ M 45 g ≤ M 47 g ∧ M 47 g ≤ 99) ∧ (0 ≤ M 46 g ∧ M 46 g ≤ M 48 g ∧ M 48 g ≤ 99)) ∧
    ∀ g, g < 5 → M (6 + g) 6 = M 52 g ∧ M (6 + g) 7 = M 51 g ∧ M (6 + g) 8 = M 53 g ∧ ∃ y u : Nat, M 52 g = nI y ∧ y ≤ 100 ∧ M 51 g = nI u ∧ u ≤ 1000000 * y
def IRe (M : Nat → Nat → Int32) : Prop := M 0 8 = M 38 19 ∧ ∃ r : Nat, M 38 19 = nI r ∧ r ≤ 500
theorem Inv.of {M : Nat → Nat → Int32} {cn gn dn : Nat} {pn : Nat → Nat} (h1 : OkO M cn gn dn pn) (h2 : OkM M cn gn dn pn) (h3 : IXY M cn pn) (h4 : IDr M dn) (h5 : IAg M) (h6 : ICr M cn pn) (h7 : IGr M gn) (h8 : IRe M) : Inv M cn gn dn pn := ⟨h1, h2, h3, h4, h5, h6, h7, h8⟩
theorem Inv.dr {M : Nat → Nat → Int32} {cn gn dn : Nat} {pn : Nat → Nat} (h : Inv M cn gn dn pn) : IDr M dn := h.2.2.2.1
theorem Inv.ga {M : Nat → Nat → Int32} {cn gn dn : Nat} {pn : Nat → Nat} (h : Inv M cn gn dn pn) : IAg M := h.2.2.2.2.1
theorem Inv.cr {M : Nat → Nat → Int32} {cn gn dn : Nat} {pn : Nat → Nat} (h : Inv M cn gn dn pn) : ICr M cn pn := h.2.2.2.2.2.1
theorem Inv.gr {M : Nat → Nat → Int32} {cn gn dn : Nat} {pn : Nat → Nat} (h : Inv M cn gn dn pn) : IGr M gn := h.2.2.2.2.2.2.1
theorem Inv.re {M : Nat → Nat → Int32} {cn gn dn : Nat} {pn : Nat → Nat} (h : Inv M cn gn dn pn) : IRe M := h.2.2.2.2.2.2.2
theorem IXY.k {M M' : Nat → Nat → Int32} {cn : Nat} {pn : Nat → Nat} (h : IXY M cn pn) (hk : ∀ i, i < cn → M' (11 + 3 * i + 1) = M (11 + 3 * i + 1) ∧ M' (11 + 3 * i + 2) = M (11 + 3 * i + 2)) (h42 : M' 42 = M 42) (h43 : M' 43 = M 43) : IXY M' cn pn := fun i hi k hik => by
  rw [(hk i hi).1, (hk i hi).2, h42, h43]; exact h i hi k hik
theorem IDr.k {M M' : Nat → Nat → Int32} {dn : Nat} (h : IDr M dn) (h1 : M' (11 + 3 * 8 + 1) = M (11 + 3 * 8 + 1)) (h2 : M' (11 + 3 * 8 + 2) = M (11 + 3 * 8 + 2)) (h39 : M' 39 = M 39) (h40 : M' 40 = M 40) : IDr M' dn := fun k hk => by
  rw [h1, h2, h39, h40]; exact h k hk
theorem IAg.k {M M' : Nat → Nat → Int32} (h : IAg M) (h4 : M' 4 = M 4) (h44 : M' 44 = M 44) : IAg M' := by unfold IAg; rw [h4, h44]; exact h
theorem ICr.k {M M' : Nat → Nat → Int32} {cn : Nat} {pn : Nat → Nat} (h : ICr M cn pn) (h2 : M' 2 = M 2) (h3 : M' 3 = M 3) (h42 : M' 42 = M 42) (h43 : M' 43 = M 43) : ICr M' cn pn := by
  refine ⟨fun i j hi hj hij => ?_, fun i hi => ?_⟩
  · rw [h2, h3, crM_ext h42 h43, crM_ext h42 h43]; exact h.1 i j hi hj hij
  · rw [h2]; exact h.2 i hi
theorem IGr.k {M M' : Nat → Nat → Int32} {gn : Nat} (h : IGr M gn) (g5 : gn ≤ 5) (hk : ∀ g, g < 5 → M' (6 + g) = M (6 + g)) (hm : ∀ q, 45 ≤ q → q < 54 → M' q = M q) : IGr M' gn := by
  refine ⟨fun g hg => ?_, fun g hg => ?_⟩
  · rw [hk g (by omega), hm 45 (by decide) (by decide), hm 46 (by decide) (by decide), hm 47 (by decide) (by decide), hm 48 (by decide) (by decide), hm 49 (by decide) (by decide), hm 50 (by decide) (by decide)]; exact h.1 g hg
  · rw [hk g hg, hm 51 (by decide) (by decide), hm 52 (by decide) (by decide), hm 53 (by decide) (by decide)]; exact h.2 g hg
theorem IRe.k {M M' : Nat → Nat → Int32} (h : IRe M) (h0 : M' 0 8 = M 0 8) (h1 : M' 38 19 = M 38 19) : IRe M' := by unfold IRe; rw [h0, h1]; exact h
/-- a call that may write: where both refuse -/
theorem ref_no {M : Nat → Nat → Int32} {cn gn dn : Nat} {pn : Nat → Nat} (h : Inv M cn gn dn pn) {C R : Int32} {MA : Nat → Nat → Int32} (hC : C ≠ 0) {hs : List String} {E : String} {MF M1 : Nat → Nat → Int32} {err : Option String} (he : err = some E) (hMF : MF = if err = none then M1 else M) (hl : lcd hs (some E) = C) :
    OkM MF cn gn dn pn ∧ (if C = 0 then MA else up2 MF 38 0 C) 38 0 = lcd hs err ∧ (lcd hs err = 0 → (if C = 0 then R else 0) = (if C = 0 then MA else up2 MF 38 0 C) 56 0) ∧ ∃ (cn1 gn1 dn1 : Nat) (pn1 : Nat → Nat), Inv (if C = 0 then MA else up2 MF 38 0 C) cn1 gn1 dn1 pn1 := by
  rw [if_neg (by rw [he]; exact fun z => nomatch z)] at hMF
  subst hMF
  rw [if_neg hC, he, hl]
  exact ⟨h.m, up2_at _ _ _ _, fun z => absurd z hC, cn, gn, dn, pn, h.h0 _⟩
theorem at_sd {M : Nat → Nat → Int32} {cn gn dn : Nat} {pn : Nat → Nat} (h : Inv M cn gn dn pn) (px py : Int32) : atO (M (11 + 3 * 8) 2) (rX M 8) (rY M 8) (nI dn - 1) px py = sdM M dn px py := by
  have d8 := h.o.d8
  rw [h.o.d]
  unfold atO sdM
  rcases Nat.eq_zero_or_pos dn with q | q
  · subst q; rfl
  · obtain ⟨k, rfl⟩ : ∃ k, dn = k + 1 := ⟨dn - 1, by omega⟩
    rw [nI_pred, if_neg (nn0 (by omega)), if_neg (fun z => absurd (nI_leI (by omega) (by omega) |>.mp z) (by omega)), nI_clamp (by omega)]
    obtain ⟨⟨e1, e2⟩, _⟩ := h.dr k (by omega)
    unfold rX rY
    rw [e1, e2, show k + 1 - 1 = k by omega]
    simp
theorem st_draft {M : Nat → Nat → Int32} {cn gn dn : Nat} {pn : Nat → Nat} (h : Inv M cn gn dn pn) (px py : Int32) : St_draft M cn gn dn pn px py := by
  obtain ⟨MF, hMF⟩ : ∃ MF, MF = oM_draft M cn gn dn pn px py := ⟨_, rfl⟩
  unfold St_draft
  rw [← hMF]
  have d8 := h.o.d8
  have c8 := h.o.c8
  cases hp : plM px py with
  | false =>
    have he : erDr M dn px py = some eA := by rw [erDr, erPl_cb, hp]; rfl
    have hc : cdDr MF dn px py = 1 := by rw [cdDr, if_pos hp]
    unfold mM_draft mV_draft oK_draft
    rw [hc]
    exact ref_no h (by decide) he hMF rfl
  | true =>
    by_cases hz : dn = 8 ∨ sdM M dn px py = true
    · have he : erDr M dn px py = some eI := by
        rw [erDr, erPl_cb, hp, at_sd h, if_pos rfl, orE, if_pos (hz.imp (fun z => by omega) id)]
      have hMF' := hMF
      unfold oM_draft at hMF'
      rw [if_neg (by rw [he]; exact fun z => nomatch z)] at hMF'
      have hc : cdDr MF dn px py = 2 := by rw [cdDr, if_neg (by rw [hp]; decide), hMF', if_pos hz]
      unfold mM_draft mV_draft oK_draft
      rw [hc]
      exact ref_no h (by decide) he hMF rfl
    · have he : erDr M dn px py = none := by
        rw [erDr, erPl_cb, hp, at_sd h, if_pos rfl, orE, if_neg (fun z => hz (z.imp (fun z => by omega) id))]
      unfold oM_draft at hMF
      rw [if_pos he] at hMF
      have r39 : MF 39 = M 39 := by rw [hMF, dfM, up2_ne _ _ _ (by decide), up2_ne _ _ _ (by decide), up2_ne _ _ _ (by decide), up2_ne _ _ _ (by decide)]
      have r40 : MF 40 = M 40 := by rw [hMF, dfM, up2_ne _ _ _ (by decide), up2_ne _ _ _ (by decide), up2_ne _ _ _ (by decide), up2_ne _ _ _ (by decide)]
      have hc : cdDr MF dn px py = 0 := by
        rw [cdDr, if_neg (by rw [hp]; decide), if_neg]
        unfold sdM at hz ⊢
        rw [r39, r40]
        exact hz
      have rr : ∀ q, q ≠ 56 → q ≠ 35 → q ≠ 36 → q ≠ 37 → MF q = M q := fun q a b c d => by rw [hMF, dfM, up2_ne _ _ _ a, up2_ne _ _ _ b, up2_ne _ _ _ d, up2_ne _ _ _ c]
      have hOM : OkM MF cn gn dn pn := h.m.keep (fun k _ _ => by rw [rr 38 (by decide) (by decide) (by decide) (by decide)]) (rr 41 (by decide) (by decide) (by decide) (by decide))
      unfold mM_draft mV_draft oK_draft
      rw [hc, he]
      refine ⟨hOM, rfl, fun _ => ?_, cn, gn, dn + 1, pn, ?_⟩
      · show nI (dn + 1) = drM MF dn px py 56 0
        rw [drM, up2_ne _ _ _ (by decide), up2_ne _ _ _ (by decide), up2_ne _ _ _ (by decide), up2_ne _ _ _ (by decide), hMF, up2_at]
      · show Inv (drM MF dn px py) cn gn (dn + 1) pn
        obtain ⟨p1, p2⟩ := (by simpa [plM] using hp : inI px 0 99 = true ∧ inI py 0 99 = true)
        have q1 := inI_true.mp p1
        have q2 := inI_true.mp p2
        have hd8 : dn < 8 := by
          rcases Nat.lt_or_ge dn 8 with z | z
          · exact z
          · exact absurd (Or.inl (by omega)) hz
        have r2 : ∀ q, q ≠ 38 → q ≠ 39 → q ≠ 40 → drM MF dn px py q = MF q := fun q a b c => by rw [drM, up2_ne _ _ _ a, up2_ne _ _ _ c, up2_ne _ _ _ b, up2_ne _ _ _ a]
        have r3 : ∀ q, q ≠ 56 → q ≠ 35 → q ≠ 36 → q ≠ 37 → q ≠ 38 → q ≠ 39 → q ≠ 40 → drM MF dn px py q = M q := fun q a b c d e f g => (r2 q e f g).trans (rr q a b c d)
        have w38 : ∀ k, k ≠ 0 → k ≠ 1 → drM MF dn px py 38 k = M 38 k := fun k a b => by
          rw [drM, up2_off _ _ _ b, up2_ne _ _ _ (by decide), up2_ne _ _ _ (by decide), up2_off _ _ _ a, rr 38 (by decide) (by decide) (by decide) (by decide)]
        have x35 : drM MF dn px py 35 2 = nI (dn + 1) := by rw [r2 35 (by decide) (by decide) (by decide), hMF, up2_ne _ _ _ (by decide)]; exact up2_at _ _ _ _
        have x36 : drM MF dn px py 36 = upd (M 36) dn px := by rw [r2 36 (by decide) (by decide) (by decide), hMF, up2_ne _ _ _ (by decide), dfM, up2_ne _ _ _ (by decide), up2_ne _ _ _ (by decide), up2_self]
        have x37 : drM MF dn px py 37 = upd (M 37) dn py := by rw [r2 37 (by decide) (by decide) (by decide), hMF, up2_ne _ _ _ (by decide), dfM, up2_ne _ _ _ (by decide), up2_self, up2_ne _ _ _ (by decide)]
        have x39 : drM MF dn px py 39 = upd (M 39) dn px := by rw [drM, up2_ne _ _ _ (by decide), up2_ne _ _ _ (by decide), up2_self, up2_ne _ _ _ (by decide), r39]
        have x40 : drM MF dn px py 40 = upd (M 40) dn py := by rw [drM, up2_ne _ _ _ (by decide), up2_self, up2_ne _ _ _ (by decide), up2_ne _ _ _ (by decide), r40]
        have hO := h.o
        have hM := h.m
        have z9 : ∀ q, q ≠ 56 → q ≠ 35 → q ≠ 36 → q ≠ 37 → q ≠ 38 → q ≠ 39 → q ≠ 40 → drM MF dn px py q = M q := r3
        refine Inv.of ?_ ?_ (IXY.k (M := M) h.xy (fun i hi => ⟨r3 _ (by omega) (by omega) (by omega) (by omega) (by omega) (by omega) (by omega), r3 _ (by omega) (by omega) (by omega) (by omega) (by omega) (by omega) (by omega)⟩) (r3 42 (by decide) (by decide) (by decide) (by decide) (by decide) (by decide) (by decide)) (r3 43 (by decide) (by decide) (by decide) (by decide) (by decide) (by decide) (by decide))) ?_ (h.ga.k (r3 4 (by decide) (by decide) (by decide) (by decide) (by decide) (by decide) (by decide)) (r3 44 (by decide) (by decide) (by decide) (by decide) (by decide) (by decide) (by decide))) (h.cr.k (r3 2 (by decide) (by decide) (by decide) (by decide) (by decide) (by decide) (by decide)) (r3 3 (by decide) (by decide) (by decide) (by decide) (by decide) (by decide) (by decide)) (r3 42 (by decide) (by decide) (by decide) (by decide) (by decide) (by decide) (by decide)) (r3 43 (by decide) (by decide) (by decide) (by decide) (by decide) (by decide) (by decide))) (h.gr.k hO.g5 (fun g hg => r3 _ (by omega) (by omega) (by omega) (by omega) (by omega) (by omega) (by omega)) (fun q a b => r3 q (by omega) (by omega) (by omega) (by omega) (by omega) (by omega) (by omega))) (h.re.k (by rw [r3 0 (by decide) (by decide) (by decide) (by decide) (by decide) (by decide) (by decide)]) (w38 19 (by decide) (by decide)))
        · refine ⟨?_, c8, ?_, hO.g5, x35, by omega, fun i hi => ?_⟩
          · rw [r3 0 (by decide) (by decide) (by decide) (by decide) (by decide) (by decide) (by decide)]; exact hO.c
          · rw [r3 0 (by decide) (by decide) (by decide) (by decide) (by decide) (by decide) (by decide)]; exact hO.g
          · rw [r3 _ (by omega) (by omega) (by omega) (by omega) (by omega) (by omega) (by omega)]; exact hO.2.2.2.2.2.2 i hi
        · refine ⟨(w38 4 (by decide) (by decide)).trans hM.c, c8, (w38 9 (by decide) (by decide)).trans hM.g, hM.g5, up2_at _ _ _ _, by omega, fun i hi => ?_⟩
          rw [r3 41 (by decide) (by decide) (by decide) (by decide) (by decide) (by decide) (by decide)]; exact hM.2.2.2.2.2.2 i hi
        · intro k hk
          show (drM MF dn px py 36 k = _ ∧ drM MF dn px py 37 k = _) ∧ _
          rw [x36, x37, x39, x40]
          by_cases hkd : k = dn
          · subst hkd
            simp only [upd, if_true]
            exact ⟨⟨trivial, trivial⟩, ⟨Int32.not_lt.mp q1.1, Int32.not_lt.mp q1.2⟩, Int32.not_lt.mp q2.1, Int32.not_lt.mp q2.2⟩
          · simp only [upd, if_neg hkd]
            exact h.dr k (by omega)
theorem gr_ar (le lo ri hh : Int32) : (plM le lo = true ∧ plM ri hh = true ∧ ¬ (ri < le ∨ ¬ lo ≤ hh)) ↔ arM le lo ri hh = true := by
  simp only [arM, plM, Bool.and_eq_true, inI_true, not_or, Decidable.not_not, Int32.not_lt]
  constructor
  · rintro ⟨⟨⟨a1, a2⟩, b1, b2⟩, ⟨⟨c1, c2⟩, d1, d2⟩, e1, e2⟩
    exact ⟨⟨⟨a1, a2⟩, b1, b2⟩, ⟨e1, c2⟩, e2, d2⟩
  · rintro ⟨⟨⟨a1, a2⟩, b1, b2⟩, ⟨c1, c2⟩, d1, d2⟩
    exact ⟨⟨⟨a1, a2⟩, b1, b2⟩, ⟨⟨Int32.le_trans a1 c1, c2⟩, Int32.le_trans b1 d1, d2⟩, c1, d1⟩
theorem erGr_cb (gn : Nat) (le lo ri hh fr to : Int32) : erGr gn le lo ri hh fr to = if arM le lo ri hh = true ∧ moM fr = true ∧ moM to = true then (if 5 ≤ gn then some eI else none) else some eA := by
  unfold erGr
  rw [erPl_cb, erPl_cb, erMo_cb, erMo_cb]
  have hg := gr_ar le lo ri hh
  have hneg : ¬ arM le lo ri hh = true → (if arM le lo ri hh = true ∧ moM fr = true ∧ moM to = true then (if 5 ≤ gn then some eI else none) else some eA) = some eA := fun h4 => if_neg (fun z => h4 z.1)
  by_cases h1 : plM le lo = true
  · by_cases h2 : plM ri hh = true
    · by_cases h3 : ri < le ∨ ¬ lo ≤ hh
      · have h4 : ¬ arM le lo ri hh = true := fun z => (hg.mpr z).2.2 h3
        rw [hneg h4, if_pos h1, if_pos h2, if_pos h3]; rfl
      · have h4 : arM le lo ri hh = true := hg.mp ⟨h1, h2, h3⟩
        rw [if_pos h1, if_pos h2, if_neg h3]
        cases moM fr <;> cases moM to <;> simp [orE, h4]
    · have h4 : ¬ arM le lo ri hh = true := fun z => h2 (hg.mpr z).2.1
      rw [hneg h4, if_pos h1, if_neg h2]; rfl
  · have h4 : ¬ arM le lo ri hh = true := fun z => h1 (hg.mpr z).1
    rw [hneg h4, if_neg h1]; rfl
theorem st_ground {M : Nat → Nat → Int32} {cn gn dn : Nat} {pn : Nat → Nat} (h : Inv M cn gn dn pn) (le lo ri hh fr to : Int32) : St_ground M cn gn dn pn le lo ri hh fr to := by
  obtain ⟨MF, hMF⟩ : ∃ MF, MF = oM_ground M cn gn dn pn le lo ri hh fr to := ⟨_, rfl⟩
  unfold St_ground
  rw [← hMF]
  have d8 := h.o.d8
  have c8 := h.o.c8
  have g5 := h.o.g5
  by_cases hA : arM le lo ri hh = true ∧ moM fr = true ∧ moM to = true
  · by_cases hG : 5 ≤ gn
    · have he : erGr gn le lo ri hh fr to = some eI := by rw [erGr_cb, if_pos hA, if_pos hG]
      have hc : cdGr gn le lo ri hh fr to = 2 := by rw [cdGr, if_neg (by rw [hA.1, hA.2.1, hA.2.2]; decide), if_pos (by omega)]
      unfold mM_ground mV_ground oK_ground
      rw [hc]
      exact ref_no h (by decide) he hMF rfl
    · have he : erGr gn le lo ri hh fr to = none := by rw [erGr_cb, if_pos hA, if_neg hG]
      have hc : cdGr gn le lo ri hh fr to = 0 := by rw [cdGr, if_neg (by rw [hA.1, hA.2.1, hA.2.2]; decide), if_neg (by omega)]
      unfold oM_ground at hMF
      rw [if_pos he] at hMF
      have hO := h.o
      have hM := h.m
      have rr : ∀ q, q ≠ 56 → q ≠ 0 → q ≠ 6 + gn → MF q = M q := fun q a b c => by rw [hMF, grM, up2_ne _ _ _ a, up2_ne _ _ _ b, up2_ne _ _ _ c, up2_ne _ _ _ c, up2_ne _ _ _ c, up2_ne _ _ _ c, up2_ne _ _ _ c, up2_ne _ _ _ c]
      have hOM : OkM MF cn gn dn pn := h.m.keep (fun k _ _ => by rw [rr 38 (by decide) (by decide) (by omega)]) (rr 41 (by decide) (by decide) (by omega))
      unfold mM_ground mV_ground oK_ground
      rw [hc, he]
      have e : ∀ M2, M2 = gwM MF gn le lo ri hh fr to → M2 56 0 = nI gn ∧ Inv M2 cn (gn + 1) dn pn := by
        intro M2 hM2
        have r2 : ∀ q, q ≠ 38 → (q < 45 ∨ 50 < q) → M2 q = MF q := fun q a b => by rw [hM2, gwM, up2_ne _ _ _ a, up2_ne _ _ _ (by omega), up2_ne _ _ _ (by omega), up2_ne _ _ _ (by omega), up2_ne _ _ _ (by omega), up2_ne _ _ _ (by omega), up2_ne _ _ _ (by omega), up2_ne _ _ _ a]
        have r3 : ∀ q, q ≠ 38 → (q < 45 ∨ 50 < q) → q ≠ 56 → q ≠ 0 → q ≠ 6 + gn → M2 q = M q := fun q a b c d f => (r2 q a b).trans (rr q c d f)
        have w38 : ∀ k, k ≠ 0 → k ≠ 9 → M2 38 k = M 38 k := fun k a b => by
          rw [hM2, gwM, up2_off _ _ _ b, up2_ne _ _ _ (by decide), up2_ne _ _ _ (by decide), up2_ne _ _ _ (by decide), up2_ne _ _ _ (by decide), up2_ne _ _ _ (by decide), up2_ne _ _ _ (by decide), up2_off _ _ _ a, rr 38 (by decide) (by decide) (by omega)]
        have x45 : M2 45 = upd (M 45) gn le := by rw [hM2, gwM, up2_ne _ _ _ (by decide), up2_ne _ _ _ (by decide), up2_ne _ _ _ (by decide), up2_ne _ _ _ (by decide), up2_ne _ _ _ (by decide), up2_ne _ _ _ (by decide), up2_self, up2_ne _ _ _ (by decide), rr 45 (by decide) (by decide) (by omega)]
        have x46 : M2 46 = upd (M 46) gn lo := by rw [hM2, gwM, up2_ne _ _ _ (by decide), up2_ne _ _ _ (by decide), up2_ne _ _ _ (by decide), up2_ne _ _ _ (by decide), up2_ne _ _ _ (by decide), up2_self, up2_ne _ _ _ (by decide), up2_ne _ _ _ (by decide), rr 46 (by decide) (by decide) (by omega)]
        have x47 : M2 47 = upd (M 47) gn ri := by rw [hM2, gwM, up2_ne _ _ _ (by decide), up2_ne _ _ _ (by decide), up2_ne _ _ _ (by decide), up2_ne _ _ _ (by decide), up2_self, up2_ne _ _ _ (by decide), up2_ne _ _ _ (by decide), up2_ne _ _ _ (by decide), rr 47 (by decide) (by decide) (by omega)]
        have x48 : M2 48 = upd (M 48) gn hh := by rw [hM2, gwM, up2_ne _ _ _ (by decide), up2_ne _ _ _ (by decide), up2_ne _ _ _ (by decide), up2_self, up2_ne _ _ _ (by decide), up2_ne _ _ _ (by decide), up2_ne _ _ _ (by decide), up2_ne _ _ _ (by decide), rr 48 (by decide) (by decide) (by omega)]
        have x49 : M2 49 = upd (M 49) gn fr := by rw [hM2, gwM, up2_ne _ _ _ (by decide), up2_ne _ _ _ (by decide), up2_self, up2_ne _ _ _ (by decide), up2_ne _ _ _ (by decide), up2_ne _ _ _ (by decide), up2_ne _ _ _ (by decide), up2_ne _ _ _ (by decide), rr 49 (by decide) (by decide) (by omega)]
        have x50 : M2 50 = upd (M 50) gn to := by rw [hM2, gwM, up2_ne _ _ _ (by decide), up2_self, up2_ne _ _ _ (by decide), up2_ne _ _ _ (by decide), up2_ne _ _ _ (by decide), up2_ne _ _ _ (by decide), up2_ne _ _ _ (by decide), up2_ne _ _ _ (by decide), rr 50 (by decide) (by decide) (by omega)]
        have xO : ∀ k, k ≠ 7 → M2 0 k = M 0 k := fun k hk => by
          rw [r2 0 (by decide) (by omega), hMF, up2_ne _ _ _ (by decide), grM, up2_off _ _ _ hk, up2_ne _ _ _ (by omega), up2_ne _ _ _ (by omega), up2_ne _ _ _ (by omega), up2_ne _ _ _ (by omega), up2_ne _ _ _ (by omega), up2_ne _ _ _ (by omega)]
        have xG : M2 (6 + gn) = upd (upd (upd (upd (upd (upd (M (6 + gn)) 0 le) 1 lo) 2 ri) 3 hh) 4 fr) 5 to := by
          rw [r2 (6 + gn) (by omega) (by omega), hMF, up2_ne _ _ _ (by omega), grM, up2_ne _ _ _ (by omega), up2_self, up2_self, up2_self, up2_self, up2_self, up2_self]
        refine ⟨?_, Inv.of ⟨?_, c8, ?_, by omega, ?_, d8, fun i hi => ?_⟩ ⟨(w38 4 (by decide) (by decide)).trans hM.c, c8, ?_, by omega, (w38 1 (by decide) (by decide)).trans hM.d, d8, fun i hi => ?_⟩ (IXY.k (M := M) h.xy (fun i hi => ⟨r3 _ (by omega) (by omega) (by omega) (by omega) (by omega), r3 _ (by omega) (by omega) (by omega) (by omega) (by omega)⟩) (r3 42 (by decide) (by decide) (by decide) (by decide) (by omega)) (r3 43 (by decide) (by decide) (by decide) (by decide) (by omega))) (IDr.k (M := M) h.dr (r3 36 (by decide) (by decide) (by decide) (by decide) (by omega)) (r3 37 (by decide) (by decide) (by decide) (by decide) (by omega)) (r3 39 (by decide) (by decide) (by decide) (by decide) (by omega)) (r3 40 (by decide) (by decide) (by decide) (by decide) (by omega))) (h.ga.k (r3 4 (by decide) (by decide) (by decide) (by decide) (by omega)) (r3 44 (by decide) (by decide) (by decide) (by decide) (by omega))) (h.cr.k (r3 2 (by decide) (by decide) (by decide) (by decide) (by omega)) (r3 3 (by decide) (by decide) (by decide) (by decide) (by omega)) (r3 42 (by decide) (by decide) (by decide) (by decide) (by omega)) (r3 43 (by decide) (by decide) (by decide) (by decide) (by omega))) ⟨fun g hg => ?_, fun g hg => ?_⟩ (h.re.k (xO 8 (by decide)) (w38 19 (by decide) (by decide)))⟩
        · rw [r2 56 (by decide) (by decide), hMF, up2_at]
        · rw [xO 2 (by decide)]; exact hO.c
        · rw [r2 0 (by decide) (by decide), hMF, up2_ne _ _ _ (by decide), grM, up2_at]
        · rw [r3 _ (by omega) (by omega) (by omega) (by omega) (by omega)]; exact hO.d
        · rw [r3 _ (by omega) (by omega) (by omega) (by omega) (by omega)]; exact hO.2.2.2.2.2.2 i hi
        · rw [hM2, gwM, up2_at]
        · rw [r3 41 (by decide) (by decide) (by decide) (by decide) (by omega)]; exact hM.2.2.2.2.2.2 i hi
        · rw [x45, x46, x47, x48, x49, x50]
          by_cases hgg : g = gn
          · subst hgg
            rw [xG]
            simp only [upd, if_true]
            obtain ⟨⟨⟨a1, a2⟩, b1, b2⟩, ⟨c1, c2⟩, d1, d2⟩ := (by simpa only [arM, plM, Bool.and_eq_true, inI_true, Int32.not_lt] using hA.1 : ((0 ≤ le ∧ le ≤ 99) ∧ 0 ≤ lo ∧ lo ≤ 99) ∧ (le ≤ ri ∧ ri ≤ 99) ∧ lo ≤ hh ∧ hh ≤ 99)
            exact ⟨⟨rfl, rfl, rfl, rfl, rfl, trivial⟩, ⟨a1, c1, c2⟩, b1, d1, d2⟩
          · rw [r3 (6 + g) (by omega) (by omega) (by omega) (by omega) (by omega)]
            simp only [upd, if_neg hgg]
            exact h.gr.1 g (by omega)
        · rw [r3 51 (by decide) (by decide) (by decide) (by decide) (by omega), r3 52 (by decide) (by decide) (by decide) (by decide) (by omega), r3 53 (by decide) (by decide) (by decide) (by decide) (by omega)]
          by_cases hgg : g = gn
          · subst hgg
            rw [xG]
            simp only [upd]
            exact h.gr.2 g (by omega)
          · rw [r3 (6 + g) (by omega) (by omega) (by omega) (by omega) (by omega)]
            exact h.gr.2 g hg
      obtain ⟨e1, e2⟩ := e _ rfl
      exact ⟨hOM, by rw [if_pos rfl]; rfl, fun _ => by rw [if_pos rfl, if_pos rfl]; exact e1.symm, cn, gn + 1, dn, pn, by rw [if_pos rfl]; exact e2⟩
  · have he : erGr gn le lo ri hh fr to = some eA := by rw [erGr_cb, if_neg hA]
    have hc : cdGr gn le lo ri hh fr to = 1 := by
      rw [cdGr, if_pos]
      cases h1 : arM le lo ri hh <;> cases h2 : moM fr <;> cases h3 : moM to <;> simp_all
    unfold mM_ground mV_ground oK_ground
    rw [hc]
    exact ref_no h (by decide) he hMF rfl
theorem nI_addL {u w : Nat} : nI u + nI w = nI (u + w) := nI_add u w
theorem in_am {am : Int32} (h : inI am 0 1000000 = true) : ∃ w : Nat, am = nI w ∧ w ≤ 1000000 := by
  obtain ⟨h1, h2⟩ := inI_true.mp h
  obtain ⟨w, hw, rfl⟩ := nI_of h1
  refine ⟨w, rfl, ?_⟩
  rcases Nat.lt_or_ge 1000000 w with q | q
  · exact absurd ((nI_ltI (by omega) hw).mpr q : nI 1000000 < nI w) h2
  · exact q
theorem st_tell {M : Nat → Nat → Int32} {cn gn dn : Nat} {pn : Nat → Nat} (h : Inv M cn gn dn pn) (g am : Int32) : St_tell M cn gn dn pn g am := by
  obtain ⟨MF, hMF⟩ : ∃ MF, MF = oM_tell M cn gn dn pn g am := ⟨_, rfl⟩
  unfold St_tell
  rw [← hMF]
  have d8 := h.o.d8
  have c8 := h.o.c8
  have g5 := h.o.g5
  have ham : (am < 0 ∨ ¬ am ≤ 1000000) ↔ inI am 0 1000000 = false := by
    simp only [inI, Int32.not_le, Bool.and_eq_false_iff, Bool.not_eq_false', decide_eq_true_eq]
  cases hb : cbM gn g with
  | false =>
    have he : erTe M gn g am = some eX := by rw [erTe, erC_cb (by omega), hb]; rfl
    have hc : cdTe MF gn g am = 1 := by rw [cdTe, if_pos hb]
    unfold mM_tell mV_tell oK_tell
    rw [hc]
    exact ref_no h (by decide) he hMF rfl
  | true =>
    obtain ⟨j, hj, rfl⟩ := cbM_true (show gn ≤ 8 by omega) hb
    have htn : tn (nI j) = j := tn_nI (by omega)
    cases hi : inI am 0 1000000 with
    | false =>
      have he : erTe M gn (nI j) am = some eA := by rw [erTe, erC_cb (by omega), hb, if_pos (ham.mpr hi)]; rfl
      have hc : cdTe MF gn (nI j) am = 2 := by rw [cdTe, if_neg (by rw [hb]; decide), if_pos hi]
      unfold mM_tell mV_tell oK_tell
      rw [hc]
      exact ref_no h (by decide) he hMF rfl
    | true =>
      obtain ⟨w, rfl, hw⟩ := in_am hi
      obtain ⟨g6, g7, g8, y, u, hy, hy1, hu, hu1⟩ := h.gr.2 j (by omega)
      have hlt : (M (6 + j) 6 < 100) ↔ y < 100 := by rw [g6, hy]; exact nI_ltI (by omega) (by decide)
      by_cases hy2 : y = 100
      · have he : erTe M gn (nI j) (nI w) = some eI := by
          rw [erTe, erC_cb (by omega), hb, if_pos rfl, if_neg (fun z => by rw [ham.mp z] at hi; cases hi), htn, if_pos (fun z => by have := hlt.mp z; omega)]; rfl
        have hMF' := hMF
        unfold oM_tell at hMF'
        rw [if_neg (by rw [he]; exact fun z => nomatch z)] at hMF'
        have hc : cdTe MF gn (nI j) (nI w) = 3 := by rw [cdTe, if_neg (by rw [hb]; decide), if_neg (by rw [hi]; decide), htn, hMF', if_pos (by rw [hy, hy2]; rfl)]
        unfold mM_tell mV_tell oK_tell
        rw [hc]
        exact ref_no h (by decide) he hMF rfl
      · have hy3 : y < 100 := by omega
        have he : erTe M gn (nI j) (nI w) = none := by
          rw [erTe, erC_cb (by omega), hb, if_pos rfl, if_neg (fun z => by rw [ham.mp z] at hi; cases hi), htn, if_neg (fun z => z (hlt.mpr hy3))]; rfl
        unfold oM_tell at hMF
        rw [if_pos he, htn] at hMF
        have hO := h.o
        have hM := h.m
        have rr : ∀ q, q ≠ 56 → q ≠ 6 + j → MF q = M q := fun q a b => by rw [hMF, teM, up2_ne _ _ _ a, up2_ne _ _ _ b, up2_ne _ _ _ b]
        have hOM : OkM MF cn gn dn pn := h.m.keep (fun k _ _ => by rw [rr 38 (by decide) (by omega)]) (rr 41 (by decide) (by omega))
        have hc : cdTe MF gn (nI j) (nI w) = 0 := by
          rw [cdTe, if_neg (by rw [hb]; decide), if_neg (by rw [hi]; decide), htn, rr 52 (by decide) (by omega), if_neg]
          rw [hy]; intro z; exact hy2 ((nI_eq (by omega) (by decide)).mp (z : nI y = nI 100))
        unfold mM_tell mV_tell oK_tell
        rw [hc, he, htn, if_pos rfl, if_pos rfl]
        have xT6 : teM M j (nI w) (6 + j) 6 = nI (y + 1) := by rw [teM, up2_off _ _ _ (by decide), up2_at, g6, hy]; exact nI_add y 1
        have xT7 : teM M j (nI w) (6 + j) 7 = nI (u + w) := by rw [teM, up2_at, up2_off _ _ _ (by decide), g7, hu]; exact nI_add u w
        have e : ∀ M2, M2 = twM MF j (nI w) → M2 38 0 = 0 ∧ prM (M2 52 j) (M2 51 j) = M2 56 0 ∧ Inv M2 cn gn dn pn := by
          intro M2 hM2
          have r2 : ∀ q, q ≠ 38 → q ≠ 51 → q ≠ 52 → M2 q = MF q := fun q a b c => by rw [hM2, twM, up2_ne _ _ _ c, up2_ne _ _ _ b, up2_ne _ _ _ a]
          have r3 : ∀ q, q ≠ 38 → q ≠ 51 → q ≠ 52 → q ≠ 56 → q ≠ 6 + j → M2 q = M q := fun q a b c d f => (r2 q a b c).trans (rr q d f)
          have w38 : ∀ k, k ≠ 0 → M2 38 k = M 38 k := fun k a => by rw [hM2, twM, up2_ne _ _ _ (by decide), up2_ne _ _ _ (by decide), up2_off _ _ _ a, rr 38 (by decide) (by omega)]
          have x51 : M2 51 = upd (M 51) j (nI (u + w)) := by
            rw [hM2, twM, up2_ne _ _ _ (by decide), up2_self, up2_ne _ _ _ (by decide), rr 51 (by decide) (by omega), hu, nI_addL]
          have x52 : M2 52 = upd (M 52) j (nI (y + 1)) := by
            rw [hM2, twM, up2_self, up2_ne _ _ _ (by decide), up2_ne _ _ _ (by decide), rr 52 (by decide) (by omega), hy]
            rw [show nI y + 1 = nI (y + 1) from nI_add y 1]
          have xG : M2 (6 + j) = upd (upd (M (6 + j)) 6 (nI (y + 1))) 7 (nI (u + w)) := by
            rw [r2 (6 + j) (by omega) (by omega) (by omega), hMF, up2_ne _ _ _ (by omega), teM, up2_self, up2_self, g6, hy]
            simp only [upd]
            rw [if_neg (by decide), g7, hu, nI_addL, show nI y + 1 = nI (y + 1) from nI_add y 1]
          have x56 : M2 56 0 = prO (nI (y + 1)) (nI (u + w)) := by
            rw [r2 56 (by decide) (by decide) (by decide), hMF, up2_at, xT6, xT7]
          refine ⟨?_, ?_, Inv.of (hO.keep (r3 0 (by decide) (by decide) (by decide) (by decide) (by omega)) (fun i hi => r3 _ (by omega) (by omega) (by omega) (by omega) (by omega))) (hM.keep (fun k a _ => w38 k a) (r3 41 (by decide) (by decide) (by decide) (by decide) (by omega))) (IXY.k (M := M) h.xy (fun i hi => ⟨r3 _ (by omega) (by omega) (by omega) (by omega) (by omega), r3 _ (by omega) (by omega) (by omega) (by omega) (by omega)⟩) (r3 42 (by decide) (by decide) (by decide) (by decide) (by omega)) (r3 43 (by decide) (by decide) (by decide) (by decide) (by omega))) (IDr.k (M := M) h.dr (r3 36 (by decide) (by decide) (by decide) (by decide) (by omega)) (r3 37 (by decide) (by decide) (by decide) (by decide) (by omega)) (r3 39 (by decide) (by decide) (by decide) (by decide) (by omega)) (r3 40 (by decide) (by decide) (by decide) (by decide) (by omega))) (h.ga.k (r3 4 (by decide) (by decide) (by decide) (by decide) (by omega)) (r3 44 (by decide) (by decide) (by decide) (by decide) (by omega))) (h.cr.k (r3 2 (by decide) (by decide) (by decide) (by decide) (by omega)) (r3 3 (by decide) (by decide) (by decide) (by decide) (by omega)) (r3 42 (by decide) (by decide) (by decide) (by decide) (by omega)) (r3 43 (by decide) (by decide) (by decide) (by decide) (by omega))) ⟨fun q hq => ?_, fun q hq => ?_⟩ (h.re.k (by rw [r3 0 (by decide) (by decide) (by decide) (by decide) (by omega)]) (w38 19 (by decide)))⟩
          · rw [hM2, twM, up2_ne _ _ _ (by decide), up2_ne _ _ _ (by decide), up2_at]
          · rw [x56, x51, x52]
            simp only [upd, if_true, prM, prO]
            rw [if_neg (nI_ne0 (by omega) (by omega)), if_neg (nI_nle (by omega) (by omega))]
          · rw [r3 45 (by decide) (by decide) (by decide) (by decide) (by omega), r3 46 (by decide) (by decide) (by decide) (by decide) (by omega), r3 47 (by decide) (by decide) (by decide) (by decide) (by omega), r3 48 (by decide) (by decide) (by decide) (by decide) (by omega), r3 49 (by decide) (by decide) (by decide) (by decide) (by omega), r3 50 (by decide) (by decide) (by decide) (by decide) (by omega)]
            by_cases hqj : q = j
            · subst hqj
              rw [xG]
              simp only [upd]
              exact h.gr.1 q hq
            · rw [r3 (6 + q) (by omega) (by omega) (by omega) (by omega) (by omega)]
              exact h.gr.1 q hq
          · rw [x51, x52, r3 53 (by decide) (by decide) (by decide) (by decide) (by omega)]
            by_cases hqj : q = j
            · subst hqj
              rw [xG]
              simp only [upd, if_true]
              exact ⟨rfl, trivial, g8, y + 1, u + w, rfl, by omega, rfl, by omega⟩
            · rw [r3 (6 + q) (by omega) (by omega) (by omega) (by omega) (by omega)]
              simp only [upd, if_neg hqj]
              exact h.gr.2 q hq
        obtain ⟨e1, e2, e3⟩ := e _ rfl
        exact ⟨hOM, e1, fun _ => e2, cn, gn, dn, pn, e3⟩
