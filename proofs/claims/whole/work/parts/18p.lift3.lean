/-! The model's lifted pieces are the same set. -/
theorem liI_mono {pn : Nat → Nat} {r k z : Nat} {S : LSt} (h : S.1 54 z ≠ 0) : (liI pn r S k).1 54 z ≠ 0 := by
  unfold liI
  split
  · show up2 (up2 S.1 54 k 1) 55 S.2 (nI k) 54 z ≠ 0
    rw [up2_ne _ _ _ (by decide), up2_self]
    simp only [upd]
    split
    · decide
    · exact h
  · exact h
theorem liK_mono {pn : Nat → Nat} {r b z : Nat} {S : LSt} (h : S.1 54 z ≠ 0) : ∀ t, (liK pn r b S t).1 54 z ≠ 0
  | 0 => h
  | t + 1 => liI_mono (liK_mono h t)
theorem liA_step {pn : Nat → Nat} {cn a : Nat} {S : LSt} : (liA pn cn S (a + 1) = liA pn cn S a ∧ (liA pn cn S a).2 ≤ a) ∨ (a < (liA pn cn S a).2 ∧ liA pn cn S (a + 1) = liK pn (rAt (liA pn cn S a) a) (8 * (rAt (liA pn cn S a) a / 8 + 1)) (liA pn cn S a) (8 * cn - 8 * (rAt (liA pn cn S a) a / 8 + 1))) := by
  by_cases h : a < (liA pn cn S a).2
  · right; exact ⟨h, by rw [liA, if_pos h]⟩
  · left; exact ⟨by rw [liA, if_neg h], by omega⟩
theorem liA_mono {pn : Nat → Nat} {cn a z : Nat} {S : LSt} (h : (liA pn cn S a).1 54 z ≠ 0) : ∀ d, (liA pn cn S (a + d)).1 54 z ≠ 0
  | 0 => h
  | d + 1 => by
    have ih := liA_mono h d
    rcases liA_step (pn := pn) (cn := cn) (a := a + d) (S := S) with ⟨e, _⟩ | ⟨_, e⟩
    · rw [show a + (d + 1) = a + d + 1 by omega, e]; exact ih
    · rw [show a + (d + 1) = a + d + 1 by omega, e]; exact liK_mono ih _
theorem liA_rowk {pn : Nat → Nat} {cn a i : Nat} {S : LSt} (h : i < (liA pn cn S a).2) : ∀ d, (liA pn cn S (a + d)).1 55 i = (liA pn cn S a).1 55 i ∧ i < (liA pn cn S (a + d)).2
  | 0 => ⟨rfl, h⟩
  | d + 1 => by
    obtain ⟨e1, e2⟩ := liA_rowk h d
    rcases liA_step (pn := pn) (cn := cn) (a := a + d) (S := S) with ⟨e, _⟩ | ⟨_, e⟩
    · rw [show a + (d + 1) = a + d + 1 by omega, e]; exact ⟨e1, e2⟩
    · rw [show a + (d + 1) = a + d + 1 by omega, e]
      obtain ⟨f1, f2⟩ := liK_row e2 (pn := pn) (r := rAt (liA pn cn S (a + d)) (a + d)) (b := 8 * (rAt (liA pn cn S (a + d)) (a + d) / 8 + 1)) (8 * cn - 8 * (rAt (liA pn cn S (a + d)) (a + d) / 8 + 1))
      exact ⟨f1.trans e1, f2⟩
/-- sound: only what a closed set holds -/
theorem liI_sound {M : Nat → Nat → Int32} {pn : Nat → Nat} {cn r k : Nat} {S : LSt} {T : Nat → Prop} (hI : LInv M pn cn S) (hT : ∀ x z, T x → okP cn pn z → x / 8 < z / 8 → cdM (M 42) (M 43) x z = true → T z) (hr : T r) (hk : k < 8 * cn) (hb : 8 * (r / 8 + 1) ≤ k) (h : ∀ z, S.1 54 z ≠ 0 → z < 64 → T z) : ∀ z, (liI pn r S k).1 54 z ≠ 0 → z < 64 → T z := by
  intro z hz hz64
  unfold liI at hz
  by_cases hc : liC pn S r k = true
  · rw [if_pos hc] at hz
    have hz : up2 (up2 S.1 54 k 1) 55 S.2 (nI k) 54 z ≠ 0 := hz
    rw [up2_ne _ _ _ (by decide), up2_self] at hz
    simp only [upd] at hz
    by_cases e : z = k
    · subst e
      simp only [liC, Bool.and_eq_true, decide_eq_true_eq] at hc
      rw [hI.1 42 (by decide) (by decide), hI.1 43 (by decide) (by decide)] at hc
      exact hT r z hr ⟨hk, hc.1.1⟩ (by omega) hc.2
    · rw [if_neg e] at hz
      exact h z hz hz64
  · rw [if_neg hc] at hz
    exact h z hz hz64
theorem liK_sound {M : Nat → Nat → Int32} {pn : Nat → Nat} {cn r : Nat} {S : LSt} {T : Nat → Prop} (h8 : cn ≤ 8) (h7 : P7 cn pn) (hI : LInv M pn cn S) (hT : ∀ x z, T x → okP cn pn z → x / 8 < z / 8 → cdM (M 42) (M 43) x z = true → T z) (hr : T r) (h : ∀ z, S.1 54 z ≠ 0 → z < 64 → T z) : ∀ t, 8 * (r / 8 + 1) + t ≤ 8 * cn → ∀ z, (liK pn r (8 * (r / 8 + 1)) S t).1 54 z ≠ 0 → z < 64 → T z
  | 0, _ => h
  | t + 1, ht => liI_sound (liK_inv h8 h7 hI t (by omega)) hT hr (by omega) (by omega) (liK_sound h8 h7 hI hT hr h t (by omega))
/-- complete: all that a handled row asks for -/
theorem liK_comp {M : Nat → Nat → Int32} {pn : Nat → Nat} {cn r b : Nat} {S : LSt} (h8 : cn ≤ 8) (h7 : P7 cn pn) (hI : LInv M pn cn S) : ∀ t, b + t ≤ 8 * cn → ∀ z, b ≤ z → z < b + t → okP cn pn z → cdM (M 42) (M 43) r z = true → (liK pn r b S t).1 54 z ≠ 0
  | 0, _, z, h1, h2, _, _ => by omega
  | t + 1, ht, z, h1, h2, hz, hc => by
    rcases Nat.lt_or_ge z (b + t) with x | x
    · exact liI_mono (liK_comp h8 h7 hI t (by omega) z h1 x hz hc)
    · have e : z = b + t := by omega
      subst e
      have hIt := liK_inv (r := r) (b := b) h8 h7 hI t (by omega)
      show (liI pn r (liK pn r b S t) (b + t)).1 54 (b + t) ≠ 0
      by_cases hl : (liK pn r b S t).1 54 (b + t) = 0
      · have hcc : liC pn (liK pn r b S t) r (b + t) = true := by
          simp only [liC, Bool.and_eq_true, decide_eq_true_eq]
          rw [hIt.1 42 (by decide) (by decide), hIt.1 43 (by decide) (by decide)]
          exact ⟨⟨hz.2, hl⟩, hc⟩
        unfold liI
        rw [if_pos hcc]
        show up2 (up2 (liK pn r b S t).1 54 (b + t) 1) 55 (liK pn r b S t).2 (nI (b + t)) 54 (b + t) ≠ 0
        rw [up2_ne _ _ _ (by decide), up2_at]
        decide
      · exact liI_mono hl
theorem liA_sound {M : Nat → Nat → Int32} {pn : Nat → Nat} {cn : Nat} {S : LSt} {T : Nat → Prop} (h8 : cn ≤ 8) (h7 : P7 cn pn) (hI : LInv M pn cn S) (hT : ∀ x z, T x → okP cn pn z → x / 8 < z / 8 → cdM (M 42) (M 43) x z = true → T z) (h : ∀ z, S.1 54 z ≠ 0 → z < 64 → T z) : ∀ a, ∀ z, (liA pn cn S a).1 54 z ≠ 0 → z < 64 → T z
  | 0 => h
  | a + 1 => by
    have ih := liA_sound h8 h7 hI hT h a
    have hIa := liA_inv h8 h7 hI a
    rcases liA_step (pn := pn) (cn := cn) (a := a) (S := S) with ⟨e, _⟩ | ⟨ha, e⟩
    · rw [e]; exact ih
    · obtain ⟨r, r1, r2, r3⟩ := hIa.2.2.2.1 a ha
      have hr63 := okP_lt h8 h7 r2
      have hra : rAt (liA pn cn S a) a = r := by unfold rAt; rw [r1, tn_nI (by omega)]
      have := r2.1
      rw [e, hra]
      exact liK_sound h8 h7 hIa hT (ih r r3 (by omega)) ih _ (by omega)
/-- the model's set -/
theorem LF_iff {M : Nat → Nat → Int32} {pn : Nat → Nat} {cn y : Nat} (h8 : cn ≤ 8) (h7 : P7 cn pn) (hy : okP cn pn y) {z : Nat} (hz : z < 64) : (LF M pn cn y).1 54 z ≠ 0 ↔ lfS M pn (y / 8) y (cn - (y / 8 + 1)) z := by
  have hc : y / 8 < cn := by have := hy.1; omega
  have hI0 := l0_inv (M := M) h8 h7 hy
  have hy63 := okP_lt h8 h7 hy
  have l54 : ∀ x, x < 64 → ((l0 M y).1 54 x ≠ 0 ↔ x = y) := by
    intro x hx
    have e54 : (l0 M y).1 54 = upd (clL M 64 54) y 1 := by
      show up2 (up2 (clL M 64) 54 y 1) 55 0 (nI y) 54 = _
      rw [up2_ne _ _ _ (by decide), up2_self]
    rw [e54]
    simp only [upd]
    by_cases e : x = y
    · rw [if_pos e]; exact ⟨fun _ => e, fun _ => by decide⟩
    · rw [if_neg e, clL_0 64 hx]; exact ⟨fun q => absurd rfl q, fun q => absurd q e⟩
  obtain ⟨N, hN⟩ : ∃ N, N = 64 := ⟨_, rfl⟩
  have hLF : LF M pn cn y = liA pn cn (l0 M y) N := by rw [hN]; rfl
  have hIF := LF_inv (M := M) h8 h7 hy
  rw [hLF] at hIF ⊢
  have hend : ∀ a, a ≤ N → (liA pn cn (l0 M y) a).2 ≤ a → liA pn cn (l0 M y) a = liA pn cn (l0 M y) N := by
    intro a ha h
    rw [hN]
    exact liA_end h (by omega)
  constructor
  · intro h
    refine liA_sound (T := lfS M pn (y / 8) y (cn - (y / 8 + 1))) h8 h7 hI0 (fun x w hx hw hlt hcd => lfS_closed hc hy rfl h7 hx hw hlt hcd) (fun x hx hx64 => ?_) N z h hz
    have e := (l54 x hx64).mp hx
    subst e
    have := lfS_mono (M := M) (pn := pn) (cb := x / 8) (y := x) (t := 0) (z := x) rfl (cn - (x / 8 + 1))
    rw [Nat.zero_add] at this
    exact this
  · have key : ∀ t, y / 8 + 1 + t ≤ cn → ∀ z, z < 64 → lfS M pn (y / 8) y t z → (liA pn cn (l0 M y) N).1 54 z ≠ 0 := by
      intro t
      induction t with
      | zero =>
        intro _ z hz h
        have h : z = y := h
        have := liA_mono (pn := pn) (cn := cn) (a := 0) (z := z) (S := l0 M y) ((l54 z hz).mpr h) N
        rw [Nat.zero_add] at this
        exact this
      | succ t ih =>
        intro ht z hz h
        rcases h with h | ⟨q, hq, e, b, k, h1, h2, h3, h4, h5⟩
        · exact ih (by omega) z hz h
        · have hb7 := h7 b (by omega)
          have ha7 := h7 (y / 8 + 1 + t) (by omega)
          have hx := ih (by omega) (8 * b + k) (by omega) h4
          obtain ⟨i, hi, hrow⟩ := hIF.2.2.2.2 (8 * b + k) (by omega) hx
          have n63 := hIF.n63 h8 h7
          have hia : i < (liA pn cn (l0 M y) i).2 := by
            rcases Nat.lt_or_ge i (liA pn cn (l0 M y) i).2 with w | w
            · exact w
            · have := hend i (by omega) w
              rw [← this] at hi
              omega
          obtain ⟨g1, _⟩ := liA_rowk hia (N - i)
          rw [show i + (N - i) = N by omega] at g1
          have hr : (liA pn cn (l0 M y) i).1 55 i = nI (8 * b + k) := g1.symm.trans hrow
          have hs := liA_s hia hr (by omega)
          have hok : okP cn pn z := by rw [e]; exact okP_of h7 (by omega) hq
          have hz1 := hok.1
          have hc1 := liK_comp (r := 8 * b + k) (b := 8 * ((8 * b + k) / 8 + 1)) h8 h7 (liA_inv h8 h7 hI0 i) (8 * cn - 8 * ((8 * b + k) / 8 + 1)) (by omega) z (by omega) (by omega) hok h5
          rw [← hs] at hc1
          have := liA_mono hc1 (N - (i + 1))
          rw [show i + 1 + (N - (i + 1)) = N by omega] at this
          exact this
    exact fun h => key _ (by omega) z hz h
