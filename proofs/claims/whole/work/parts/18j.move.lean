/-! A point is moved. -/
theorem we_wn {c s : Nat} (hc : c ≤ 49) (hs : s ≤ 49) : (!decide (nI c ≤ 0) && decide (nI s = nI c)) = (!decide (s = 0) && decide (s = c)) := by
  have z2 : (nI s = nI c) ↔ s = c := nI_eq (by omega) (by omega)
  simp only [nle0 (show c < 2 ^ 31 by omega), z2]
  by_cases h : s = c
  · subst h; rfl
  · simp [h]
/-- a memory with the office's routes and the model's places -/
def mixM (A B : Nat → Nat → Int32) : Nat → Nat → Int32 := fun q => if q = 42 ∨ q = 43 then B q else A q
theorem mix_a {A B : Nat → Nat → Int32} {q : Nat} (h : q ≠ 42) (h2 : q ≠ 43) : mixM A B q = A q := by unfold mixM; rw [if_neg (by omega)]
theorem mix_42 {A B : Nat → Nat → Int32} : mixM A B 42 = B 42 := rfl
theorem mix_43 {A B : Nat → Nat → Int32} : mixM A B 43 = B 43 := rfl
theorem mvM_row {M : Nat → Nat → Int32} {pn : Nat → Nat} {j q : Nat} (h2 : q ≠ 2) (h3 : q ≠ 3) (h4 : q ≠ 4) : ∀ t, mvM M pn j t q = M q
  | 0 => rfl
  | t + 1 => by
    rw [mvM]
    split
    · exact mvM_row h2 h3 h4 t
    · split
      · rw [up2_ne _ _ _ h4, rec_row h2 h3, mvM_row h2 h3 h4 t]
      · rw [rec_row h2 h3, mvM_row h2 h3 h4 t]
theorem mwM_row {M : Nat → Nat → Int32} {pn : Nat → Nat} {j q : Nat} (h : q ≠ 44) : ∀ t, mwM M pn j t q = M q
  | 0 => rfl
  | t + 1 => by
    rw [mwM]
    split
    · rw [agM, up2_ne _ _ _ h, up2_ne _ _ _ h, mwM_row h t]
    · exact mwM_row h t
theorem mwC_le {M : Nat → Nat → Int32} {pn : Nat → Nat} {j : Nat} : ∀ t, mwC M pn j t ≤ t
  | 0 => Nat.le_refl _
  | t + 1 => by
    have := mwC_le (M := M) (pn := pn) (j := j) t
    rw [mwC]
    split <;> omega
/-- both go through the other cables alike -/
theorem mv_step {A B : Nat → Nat → Int32} {cn j : Nat} {pn : Nat → Nat} (c8 : cn ≤ 8) (hj : j < cn) (hX : IXY (mixM A B) cn pn) (h7 : P7 cn pn) (hA : (∀ p q, p < 8 → q < 8 → A 4 (pr p q) = B 44 (8 * p + q)) ∧ (∀ i, i < 64 → A 4 i = 0 ∨ A 4 i = 1) ∧ ∀ i, i < 8 → B 44 (9 * i) = 0) : ∀ t, t ≤ cn →
    ((∀ p q, p < 8 → q < 8 → mvM A pn j t 4 (pr p q) = mwM B pn j t 44 (8 * p + q)) ∧ (∀ i, i < 64 → mvM A pn j t 4 i = 0 ∨ mvM A pn j t 4 i = 1) ∧ ∀ i, i < 8 → mwM B pn j t 44 (9 * i) = 0) ∧
    (∀ s, s < t → s ≠ j → mvM A pn j t 2 (pr j s) = nI (crM false (mixM A B) pn j s) ∧ mvM A pn j t 3 (pr j s) = nI (crM true (mixM A B) pn j s)) ∧
    (∀ x, (∀ s, s < t → s ≠ j → x ≠ pr j s) → mvM A pn j t 2 x = A 2 x ∧ mvM A pn j t 3 x = A 3 x) ∧ mvC A pn j t = nI (mwC B pn j t) := by
  intro t
  induction t with
  | zero => intro _; exact ⟨hA, fun s hs => by omega, fun x _ => ⟨rfl, rfl⟩, rfl⟩
  | succ t ih =>
    intro ht
    obtain ⟨⟨a1, a2, a3⟩, b1, b2, d1⟩ := ih (by omega)
    by_cases htj : t = j
    · have hf : fallM (mwM B pn j t) pn j t = false := by
        have hz : mwM B pn j t 44 (8 * j + t) = 0 := by rw [show 8 * j + t = 9 * j by omega]; exact a3 j (by omega)
        unfold fallM
        rw [hz]
        rfl
      have e1 : mvM A pn j (t + 1) = mvM A pn j t := by rw [mvM, if_pos htj]
      have e2 : mwM B pn j (t + 1) = mwM B pn j t := by rw [mwM, if_neg (by rw [hf]; decide)]
      have e3 : mvC A pn j (t + 1) = mvC A pn j t := by rw [mvC, if_pos htj]
      have e4 : mwC B pn j (t + 1) = mwC B pn j t := by rw [mwC, if_neg (by rw [hf]; decide)]
      rw [e1, e2, e3, e4]
      exact ⟨⟨a1, a2, a3⟩, fun s hs hsj => b1 s (by omega) hsj, fun x hx => b2 x (fun s hs hsj => hx s (by omega) hsj), d1⟩
    · have ht8 : t < cn := by omega
      have cx : ∀ bb, cnX bb (mvM A pn j t) pn j t = crM bb (mixM A B) pn j t := by
        intro bb
        rw [← hX.cn bb hj ht8 (fun z => htj z.symm)]
        refine cnX_ext ?_ ?_ ?_ ?_
        · unfold rX; rw [mvM_row (by omega) (by omega) (by omega), mix_a (by omega) (by omega)]
        · unfold rY; rw [mvM_row (by omega) (by omega) (by omega), mix_a (by omega) (by omega)]
        · unfold rX; rw [mvM_row (by omega) (by omega) (by omega), mix_a (by omega) (by omega)]
        · unfold rY; rw [mvM_row (by omega) (by omega) (by omega), mix_a (by omega) (by omega)]
      have l1 : crM false (mixM A B) pn j t ≤ 49 := crM_le (h7 j hj).2 (h7 t ht8).2
      have l2 : crM true (mixM A B) pn j t ≤ 49 := crM_le (h7 j hj).2 (h7 t ht8).2
      have r2 : recM (mvM A pn j t) pn j t 2 = upd (mvM A pn j t 2) (pr j t) (nI (crM false (mixM A B) pn j t)) := by rw [rec_2, cx]
      have r3 : recM (mvM A pn j t) pn j t 3 = upd (mvM A pn j t 3) (pr j t) (nI (crM true (mixM A B) pn j t)) := by rw [rec_3, cx]
      have r4 : recM (mvM A pn j t) pn j t 4 = mvM A pn j t 4 := rec_row (by decide) (by decide)
      have hw : weO (recM (mvM A pn j t) pn j t) j t = wnM (mixM A B) pn j t := by
        unfold weO wnM
        rw [r2, r3]
        simp only [upd, if_true]
        exact we_wn l1 l2
      have hwm : wnM (mwM B pn j t) pn j t = wnM (mixM A B) pn j t := wnM_ext (by rw [mwM_row (by decide), mix_42]) (by rw [mwM_row (by decide), mix_43]) j t
      have hdr : drO (recM (mvM A pn j t) pn j t) j t = fallM (mwM B pn j t) pn j t := by
        unfold drO fallM
        rw [r4, hw, hwm, a1 j t (by omega) (by omega)]
      have hcc : ∀ s, s < t + 1 → s ≠ j → upd (mvM A pn j t 2) (pr j t) (nI (crM false (mixM A B) pn j t)) (pr j s) = nI (crM false (mixM A B) pn j s) ∧ upd (mvM A pn j t 3) (pr j t) (nI (crM true (mixM A B) pn j t)) (pr j s) = nI (crM true (mixM A B) pn j s) := by
        intro s hs hsj
        simp only [upd]
        by_cases e : pr j s = pr j t
        · have : s = t := by rcases pr_inj (by omega) (by omega) (by omega) (by omega) e with ⟨_, z⟩ | ⟨z, z2⟩ <;> omega
          subst this
          rw [if_pos rfl, if_pos rfl]; exact ⟨rfl, rfl⟩
        · rw [if_neg e, if_neg e]
          have hst : s < t := by
            rcases Nat.lt_or_ge s t with z | z
            · exact z
            · exact absurd (by rw [show s = t by omega]) e
          exact b1 s hst hsj
      have hoff : ∀ x, (∀ s, s < t + 1 → s ≠ j → x ≠ pr j s) → upd (mvM A pn j t 2) (pr j t) (nI (crM false (mixM A B) pn j t)) x = A 2 x ∧ upd (mvM A pn j t 3) (pr j t) (nI (crM true (mixM A B) pn j t)) x = A 3 x := by
        intro x hx
        simp only [upd]
        rw [if_neg (hx t (by omega) htj), if_neg (hx t (by omega) htj)]
        exact b2 x (fun s hs hsj => hx s (by omega) hsj)
      have hcl := mwC_le (M := B) (pn := pn) (j := j) t
      cases hf : fallM (mwM B pn j t) pn j t with
      | true =>
        have e1 : mvM A pn j (t + 1) = up2 (recM (mvM A pn j t) pn j t) 4 (pr j t) 0 := by rw [mvM, if_neg htj, if_pos (by rw [hdr, hf])]
        have e2 : mwM B pn j (t + 1) = agM (mwM B pn j t) j t 0 := by rw [mwM, if_pos hf]
        have e3 : mvC A pn j (t + 1) = nI (mwC B pn j t + 1) := by rw [mvC, if_neg htj, if_pos (by rw [hdr, hf]), d1]; exact nI_add _ 1
        have e4 : mwC B pn j (t + 1) = mwC B pn j t + 1 := by rw [mwC, if_pos hf]
        have x4 : mvM A pn j (t + 1) 4 = upd (mvM A pn j t 4) (pr j t) 0 := by rw [e1, up2_self, r4]
        have x44 : mwM B pn j (t + 1) 44 = upd (upd (mwM B pn j t 44) (8 * j + t) 0) (8 * t + j) 0 := by rw [e2, agM, up2_self, up2_self]
        have hag := IAg.set (M := fun q => if q = 4 then mvM A pn j t 4 else mwM B pn j t q) (M' := fun q => if q = 4 then mvM A pn j (t + 1) 4 else mwM B pn j (t + 1) q) ⟨a1, a2, a3⟩ (show j < 8 by omega) (show t < 8 by omega) (fun z => htj z.symm) (Or.inl rfl) x4 x44
        refine ⟨hag, ?_, ?_, by rw [e3, e4]⟩
        · rw [e1, up2_ne _ _ _ (by decide), up2_ne _ _ _ (by decide), r2, r3]; exact hcc
        · rw [e1, up2_ne _ _ _ (by decide), up2_ne _ _ _ (by decide), r2, r3]; exact hoff
      | false =>
        have e1 : mvM A pn j (t + 1) = recM (mvM A pn j t) pn j t := by rw [mvM, if_neg htj, if_neg (by rw [hdr, hf]; decide)]
        have e2 : mwM B pn j (t + 1) = mwM B pn j t := by rw [mwM, if_neg (by rw [hf]; decide)]
        have e3 : mvC A pn j (t + 1) = nI (mwC B pn j t) := by rw [mvC, if_neg htj, if_neg (by rw [hdr, hf]; decide), d1]; exact Int32.add_zero _
        have e4 : mwC B pn j (t + 1) = mwC B pn j t := by rw [mwC, if_neg (by rw [hf]; decide)]
        refine ⟨?_, ?_, ?_, by rw [e3, e4]⟩
        · rw [e1, e2, r4]; exact ⟨a1, a2, a3⟩
        · rw [e1, r2, r3]; exact hcc
        · rw [e1, r2, r3]; exact hoff
theorem at_ah {M : Nat → Nat → Int32} {cn gn dn j k : Nat} {pn : Nat → Nat} (h : Inv M cn gn dn pn) (hj : j < cn) (hk : k ≤ pn j) (px py : Int32) : atO (M (11 + 3 * j) 2) (rX M j) (rY M j) (nI k - 1) px py = ahM M j k px py := by
  have h7 := h.m.pp j hj
  rw [h.o.p hj]
  unfold atO ahM
  rcases Nat.eq_zero_or_pos k with q | q
  · subst q; rfl
  · obtain ⟨k', rfl⟩ : ∃ k', k = k' + 1 := ⟨k - 1, by omega⟩
    rw [nI_pred, if_neg (nn0 (by omega)), if_neg (fun z => absurd (nI_leI (by omega) (by omega) |>.mp z) (by omega)), nI_clamp (by omega)]
    obtain ⟨⟨e1, e2⟩, _⟩ := h.xy j hj k' (by omega)
    unfold rX rY
    rw [e1, e2, show 8 * j + (k' + 1) - 1 = 8 * j + k' by omega]
    simp
theorem at_bh {M : Nat → Nat → Int32} {cn gn dn j k : Nat} {pn : Nat → Nat} (h : Inv M cn gn dn pn) (hj : j < cn) (hk : k ≤ pn j) (px py : Int32) : atO (M (11 + 3 * j) 2) (rX M j) (rY M j) (nI k + 1) px py = bhM M pn j k px py := by
  have h7 := h.m.pp j hj
  rw [h.o.p hj, show nI k + 1 = nI (k + 1) from nI_add k 1]
  unfold atO bhM
  rw [if_neg (nn0 (by omega))]
  by_cases q : pn j ≤ k
  · rw [if_pos ((nI_leI (by omega) (by omega)).mpr (by omega)), decide_eq_true q]; rfl
  · rw [if_neg (fun z => absurd (nI_leI (by omega) (by omega) |>.mp z) (by omega)), nI_clamp (by omega), decide_eq_false q]
    obtain ⟨⟨e1, e2⟩, _⟩ := h.xy j hj (k + 1) (by omega)
    unfold rX rY
    rw [e1, e2]
    rfl
theorem st_move {M : Nat → Nat → Int32} {cn gn dn : Nat} {pn : Nat → Nat} (h : Inv M cn gn dn pn) (a q px py : Int32) : St_move M cn gn dn pn a q px py := by
  obtain ⟨MF, hMF⟩ : ∃ MF, MF = oM_move M cn gn dn pn a q px py := ⟨_, rfl⟩
  unfold St_move
  rw [← hMF]
  have c8 := h.o.c8
  cases hb : ptM cn pn a q with
  | false =>
    have he : erMv M cn pn a q px py = some eX := by rw [erMv, erPt_cb c8 h.m.pp, hb]; rfl
    have hc : cdMv MF cn pn a q px py = 1 := by rw [cdMv, if_pos hb]
    unfold mM_move mV_move oK_move
    rw [hc]
    exact ref_no h (by decide) he hMF rfl
  | true =>
    obtain ⟨j, k, hj, rfl, hk, rfl⟩ := ptM_true c8 h.m.pp hb
    have h7 := h.m.pp j hj
    have tj : tn (nI j) = j := tn_nI (by omega)
    have tk : tn (nI k) = k := tn_nI (by omega)
    cases hp : plM px py with
    | false =>
      have he : erMv M cn pn (nI j) (nI k) px py = some eA := by rw [erMv, erPt_cb c8 h.m.pp, hb, erPl_cb, hp]; rfl
      have hc : cdMv MF cn pn (nI j) (nI k) px py = 2 := by rw [cdMv, if_neg (by rw [hb]; decide), if_pos hp]
      unfold mM_move mV_move oK_move
      rw [hc]
      exact ref_no h (by decide) he hMF rfl
    | true =>
      by_cases hz : ahM M j k px py = true ∨ bhM M pn j k px py = true
      · have he : erMv M cn pn (nI j) (nI k) px py = some eI := by
          rw [erMv, erPt_cb c8 h.m.pp, hb, erPl_cb, hp, if_pos rfl, if_pos rfl, tj, at_ah h hj (by omega), at_bh h hj (by omega), if_pos hz]; rfl
        have hMF' := hMF
        unfold oM_move at hMF'
        rw [if_neg (by rw [he]; exact fun z => nomatch z)] at hMF'
        have hc : cdMv MF cn pn (nI j) (nI k) px py = 3 := by rw [cdMv, if_neg (by rw [hb]; decide), if_neg (by rw [hp]; decide), tj, tk, hMF', if_pos hz]
        unfold mM_move mV_move oK_move
        rw [hc]
        exact ref_no h (by decide) he hMF rfl
      · have he : erMv M cn pn (nI j) (nI k) px py = none := by
          rw [erMv, erPt_cb c8 h.m.pp, hb, erPl_cb, hp, if_pos rfl, if_pos rfl, tj, at_ah h hj (by omega), at_bh h hj (by omega), if_neg hz]; rfl
        unfold oM_move at hMF
        rw [if_pos he, tj, tk] at hMF
        have hO := h.o
        have hM := h.m
        obtain ⟨A, hA⟩ : ∃ A, A = mv0 M j k px py := ⟨_, rfl⟩
        rw [← hA] at hMF
        have ra : ∀ x, x ≠ 11 + 3 * j + 1 → x ≠ 11 + 3 * j + 2 → A x = M x := fun x y z => by rw [hA, mv0, up2_ne _ _ _ z, up2_ne _ _ _ y]
        have rr : ∀ x, x ≠ 56 → x ≠ 2 → x ≠ 3 → x ≠ 4 → MF x = A x := fun x y z w v => by rw [hMF, up2_ne _ _ _ y, mvM_row z w v]
        have rm : ∀ x, x ≠ 56 → x ≠ 2 → x ≠ 3 → x ≠ 4 → (x < 11 ∨ 37 < x) → MF x = M x := fun x y z w v u => (rr x y z w v).trans (ra x (by omega) (by omega))
        have hOM : OkM MF cn gn dn pn := hM.keep (fun k _ _ => by rw [rm 38 (by decide) (by decide) (by decide) (by decide) (by decide)]) (rm 41 (by decide) (by decide) (by decide) (by decide) (by decide))
        have hc : cdMv MF cn pn (nI j) (nI k) px py = 0 := by
          rw [cdMv, if_neg (by rw [hb]; decide), if_neg (by rw [hp]; decide), tj, tk, if_neg]
          unfold ahM bhM at hz ⊢
          rw [rm 42 (by decide) (by decide) (by decide) (by decide) (by decide), rm 43 (by decide) (by decide) (by decide) (by decide) (by decide)]
          exact hz
        unfold mM_move mV_move oK_move
        rw [hc, he, if_pos rfl, if_pos rfl, tj, tk]
        obtain ⟨B, hB⟩ : ∃ B, B = mw0 MF j k px py := ⟨_, rfl⟩
        rw [← hB]
        have rb : ∀ x, x ≠ 38 → x ≠ 42 → x ≠ 43 → B x = MF x := fun x y z w => by rw [hB, mw0, up2_ne _ _ _ w, up2_ne _ _ _ z, up2_ne _ _ _ y]
        have b38 : ∀ x, x ≠ 0 → B 38 x = M 38 x := fun x y => by rw [hB, mw0, up2_ne _ _ _ (by decide), up2_ne _ _ _ (by decide), up2_off _ _ _ y, rm 38 (by decide) (by decide) (by decide) (by decide) (by decide)]
        have b42 : B 42 = upd (M 42) (8 * j + k) px := by rw [hB, mw0, up2_ne _ _ _ (by decide), up2_self, up2_ne _ _ _ (by decide), rm 42 (by decide) (by decide) (by decide) (by decide) (by decide)]
        have b43 : B 43 = upd (M 43) (8 * j + k) py := by rw [hB, mw0, up2_self, up2_ne _ _ _ (by decide), up2_ne _ _ _ (by decide), rm 43 (by decide) (by decide) (by decide) (by decide) (by decide)]
        have ax : A (11 + 3 * j + 1) = upd (M (11 + 3 * j + 1)) k px := by rw [hA, mv0, up2_ne _ _ _ (by omega), up2_self]
        have ay : A (11 + 3 * j + 2) = upd (M (11 + 3 * j + 2)) k py := by rw [hA, mv0, up2_self, up2_ne _ _ _ (by omega)]
        obtain ⟨p1, p2⟩ := (by simpa [plM] using hp : inI px 0 99 = true ∧ inI py 0 99 = true)
        have q1 := inI_true.mp p1
        have q2 := inI_true.mp p2
        have hX : IXY (mixM A B) cn pn := by
          intro i hi t ht
          rw [mix_a (q := 11 + 3 * i + 1) (by omega) (by omega), mix_a (q := 11 + 3 * i + 2) (by omega) (by omega), mix_42, mix_43, b42, b43]
          have h7i := hM.pp i hi
          by_cases hij : i = j
          · subst hij
            rw [ax, ay]
            simp only [upd]
            by_cases htk : t = k
            · subst htk
              rw [if_pos rfl, if_pos rfl, if_pos rfl, if_pos rfl]
              exact ⟨⟨rfl, rfl⟩, ⟨Int32.not_lt.mp q1.1, Int32.not_lt.mp q1.2⟩, Int32.not_lt.mp q2.1, Int32.not_lt.mp q2.2⟩
            · rw [if_neg htk, if_neg htk, if_neg (by omega), if_neg (by omega)]
              exact h.xy i hi t ht
          · rw [ra _ (by omega) (by omega), ra _ (by omega) (by omega)]
            simp only [upd]
            rw [if_neg (by omega), if_neg (by omega)]
            exact h.xy i hi t ht
        have hAg : (∀ p q, p < 8 → q < 8 → A 4 (pr p q) = B 44 (8 * p + q)) ∧ (∀ i, i < 64 → A 4 i = 0 ∨ A 4 i = 1) ∧ ∀ i, i < 8 → B 44 (9 * i) = 0 := by
          rw [ra 4 (by omega) (by omega), rb 44 (by decide) (by decide) (by decide), rm 44 (by decide) (by decide) (by decide) (by decide) (by decide)]
          exact h.ga
        obtain ⟨s1, s2, s3, s4⟩ := mv_step c8 hj hX hM.pp hAg cn (Nat.le_refl _)
        have e : ∀ M2, M2 = mwM B pn j cn → M2 38 0 = 0 ∧ nI (mwC B pn j cn) = M2 56 0 ∧ Inv M2 cn gn dn pn := by
          intro M2 hM2
          have r2 : ∀ x, x ≠ 44 → M2 x = B x := fun x y => by rw [hM2, mwM_row y]
          have r3 : ∀ x, x ≠ 44 → x ≠ 38 → x ≠ 42 → x ≠ 43 → x ≠ 56 → x ≠ 2 → x ≠ 3 → x ≠ 4 → M2 x = A x := fun x a b c d e f g i => by rw [r2 x a, rb x b c d, rr x e f g i]
          have r5 : ∀ x, x ≠ 44 → x ≠ 38 → x ≠ 42 → x ≠ 43 → x ≠ 56 → x ≠ 2 → x ≠ 3 → x ≠ 4 → (x ≠ 11 + 3 * j + 1) → (x ≠ 11 + 3 * j + 2) → M2 x = M x := fun x a b c d e f g i u v => (r3 x a b c d e f g i).trans (ra x u v)
          have m2 : M2 2 = mvM A pn j cn 2 := by rw [r2 2 (by decide), rb 2 (by decide) (by decide) (by decide), hMF, up2_ne _ _ _ (by decide)]
          have m3 : M2 3 = mvM A pn j cn 3 := by rw [r2 3 (by decide), rb 3 (by decide) (by decide) (by decide), hMF, up2_ne _ _ _ (by decide)]
          have m4 : M2 4 = mvM A pn j cn 4 := by rw [r2 4 (by decide), rb 4 (by decide) (by decide) (by decide), hMF, up2_ne _ _ _ (by decide)]
          have hX2 : IXY M2 cn pn := hX.k (fun i hi => ⟨by rw [r3 _ (by omega) (by omega) (by omega) (by omega) (by omega) (by omega) (by omega) (by omega), mix_a (by omega) (by omega)], by rw [r3 _ (by omega) (by omega) (by omega) (by omega) (by omega) (by omega) (by omega) (by omega), mix_a (by omega) (by omega)]⟩) (by rw [r2 42 (by decide), mix_42]) (by rw [r2 43 (by decide), mix_43])
          have cm : ∀ bb i t, crM bb (mixM A B) pn i t = crM bb M2 pn i t := fun bb i t => (crM_ext (M := mixM A B) (M' := M2) (by rw [r2 42 (by decide), mix_42]) (by rw [r2 43 (by decide), mix_43]) i t).symm
          have hjn : ∀ t, t < cn → t ≠ j → M2 2 (pr j t) = nI (crM false M2 pn j t) ∧ M2 3 (pr j t) = nI (crM true M2 pn j t) := by
            intro t ht htj
            rw [m2, m3, ← cm, ← cm]
            exact s2 t ht htj
          refine ⟨?_, ?_, Inv.of (hO.keep (by rw [r5 0 (by decide) (by decide) (by decide) (by decide) (by decide) (by decide) (by decide) (by decide) (by omega) (by omega)]) (fun i hi => r5 _ (by omega) (by omega) (by omega) (by omega) (by omega) (by omega) (by omega) (by omega) (by omega) (by omega))) (hM.keep (fun x y _ => by rw [r2 38 (by decide), b38 x y]) (by rw [r5 41 (by decide) (by decide) (by decide) (by decide) (by decide) (by decide) (by decide) (by decide) (by omega) (by omega)])) hX2 (IDr.k (M := M) h.dr (r5 _ (by decide) (by decide) (by decide) (by decide) (by decide) (by decide) (by decide) (by decide) (by omega) (by omega)) (r5 _ (by decide) (by decide) (by decide) (by decide) (by decide) (by decide) (by decide) (by decide) (by omega) (by omega)) (r5 39 (by decide) (by decide) (by decide) (by decide) (by decide) (by decide) (by decide) (by decide) (by omega) (by omega)) (r5 40 (by decide) (by decide) (by decide) (by decide) (by decide) (by decide) (by decide) (by decide) (by omega) (by omega))) (by unfold IAg; rw [m4, hM2]; exact s1) ⟨fun i t hi ht hit => ?_, fun i hi => ?_⟩ (h.gr.k hO.g5 (fun g hg => r5 _ (by omega) (by omega) (by omega) (by omega) (by omega) (by omega) (by omega) (by omega) (by omega) (by omega)) (fun x y z => by
              by_cases hx : x = 44
              · omega
              · exact r5 x (by omega) (by omega) (by omega) (by omega) (by omega) (by omega) (by omega) (by omega) (by omega) (by omega))) (h.re.k (by rw [r5 0 (by decide) (by decide) (by decide) (by decide) (by decide) (by decide) (by decide) (by decide) (by omega) (by omega)]) (by rw [r2 38 (by decide), b38 19 (by decide)]))⟩
          · rw [r2 38 (by decide), hB, mw0, up2_ne _ _ _ (by decide), up2_ne _ _ _ (by decide), up2_at]
          · rw [r2 56 (by decide), rb 56 (by decide) (by decide) (by decide), hMF, up2_at, s4]
          · by_cases hij : i = j
            · subst hij
              exact hjn t ht (fun z => hit z.symm)
            · by_cases htj : t = j
              · subst htj
                rw [pr_comm, hX2.comm false hi ht, hX2.comm true hi ht]
                exact hjn i hi hit
              · obtain ⟨a1, a2⟩ := s3 (pr i t) (fun s hs hsj z => by
                  rcases pr_inj (by omega) (by omega) (by omega) (by omega) z with ⟨z1, _⟩ | ⟨_, z1⟩
                  · exact hij z1
                  · exact htj z1)
                have hcc : ∀ bb, crM bb M2 pn i t = crM bb M pn i t := by
                  intro bb
                  rw [← hX2.cn bb hi ht hit, ← h.ixy.cn bb hi ht hit]
                  refine cnX_ext ?_ ?_ ?_ ?_
                  · exact r5 _ (by omega) (by omega) (by omega) (by omega) (by omega) (by omega) (by omega) (by omega) (by omega) (by omega)
                  · exact r5 _ (by omega) (by omega) (by omega) (by omega) (by omega) (by omega) (by omega) (by omega) (by omega) (by omega)
                  · exact r5 _ (by omega) (by omega) (by omega) (by omega) (by omega) (by omega) (by omega) (by omega) (by omega) (by omega)
                  · exact r5 _ (by omega) (by omega) (by omega) (by omega) (by omega) (by omega) (by omega) (by omega) (by omega) (by omega)
                rw [m2, m3, a1, a2, ra 2 (by omega) (by omega), ra 3 (by omega) (by omega), hcc, hcc]
                exact h.cr.1 i t hi ht hit
          · obtain ⟨a1, _⟩ := s3 (9 * i) (fun s hs hsj z => by unfold pr at z; omega)
            rw [m2, a1, ra 2 (by omega) (by omega)]
            exact h.cr.2 i hi
        obtain ⟨e1, e2, e3⟩ := e _ rfl
        exact ⟨hOM, e1, fun _ => e2, cn, gn, dn, pn, e3⟩
