/-! A bad pair of lifted pieces; what a repair costs: the office's answer and the model's. -/
def BD (M : Nat → Nat → Int32) (cn : Nat) (pn : Nat → Nat) (S : Nat → Prop) : Prop := ∃ x y, okP cn pn x ∧ okP cn pn y ∧ S x ∧ S y ∧ x / 8 < y / 8 ∧ cdM (M 42) (M 43) x y = true ∧ M 44 (8 * (x / 8) + y / 8) = 0
theorem gb_ex {L : Int64} : L = 0 ↔ ∀ z, z < 64 → gb L z = false := by
  constructor
  · rintro rfl z _
    exact gb_0 z
  · intro h
    apply Int64.toBitVec_inj.mp
    apply BitVec.eq_of_getLsbD_eq
    intro i hi
    have := h i hi
    unfold gb at this
    rw [this]
    simp
theorem ps_iff {M : Nat → Nat → Int32} {pn : Nat → Nat} {cn : Nat} {L : Int64} {S : Nat → Prop} (hX : IXY M cn pn) (hA : IAg M) (h7 : P7 cn pn) (c8 : cn ≤ 8) (hS : ∀ z, z < 64 → (gb L z = true ↔ S z)) (hcl : ∀ x z, S x → okP cn pn z → x / 8 < z / 8 → x < 64 → cdM (M 42) (M 43) x z = true → S z) : psO M pn L cn = false ↔ BD M cn pn S := by
  have bad : ∀ a b, a < cn → b < a → (badO M pn L a b = true ↔ ∃ k q, k < pn b ∧ q < pn a ∧ S (8 * b + k) ∧ cdM (M 42) (M 43) (8 * b + k) (8 * a + q) = true ∧ M 44 (8 * b + a) = 0) := by
    intro a b ha hb
    have ha7 := h7 a ha
    have hb7 := h7 b (by omega)
    unfold badO
    rw [Bool.and_eq_true, decide_eq_true_eq, hA.1 b a (by omega) (by omega), Bool.not_eq_true', decide_eq_false_iff_not, lg0, gb_ex]
    constructor
    · rintro ⟨h1, h2⟩
      have hz : ∃ z, z < 64 ∧ gb (lyO M pn L b a (pn a)) z = true := by
        apply Classical.byContradiction
        intro hn
        refine h2 (fun z hz => ?_)
        cases e : gb (lyO M pn L b a (pn a)) z with
        | false => rfl
        | true => exact absurd ⟨z, hz, e⟩ hn
      obtain ⟨z, hz, hg⟩ := hz
      obtain ⟨q, hq, e, hl⟩ := (gb_ly (by omega) (pn a) (by omega) z hz).mp hg
      obtain ⟨k, hk, k1, k2⟩ := (lo_iff hX h7 c8 (show b < cn by omega) ha hq).mp hl
      exact ⟨k, q, hk, hq, (hS _ (by omega)).mp k1, k2, h1⟩
    · rintro ⟨k, q, hk, hq, s, cd, h1⟩
      refine ⟨h1, fun hn => ?_⟩
      have := (gb_ly (M := M) (pn := pn) (L := L) (b := b) (a := a) (by omega) (pn a) (by omega) (8 * a + q) (by omega)).mpr ⟨q, hq, rfl, (lo_iff hX h7 c8 (show b < cn by omega) ha hq).mpr ⟨k, hk, (hS _ (by omega)).mpr s, cd⟩⟩
      rw [hn _ (by omega)] at this
      exact Bool.noConfusion this
  unfold psO
  rw [Bool.not_eq_false', anyB_iff]
  constructor
  · rintro ⟨a, ha, h⟩
    obtain ⟨b, hb, h⟩ := (anyB_iff a).mp h
    obtain ⟨k, q, hk, hq, s, cd, m⟩ := (bad a b ha hb).mp h
    have oy := okP_of h7 ha hq
    have ox := okP_of h7 (show b < cn by omega) hk
    have ha7 := h7 a ha
    have hb7 := h7 b (by omega)
    refine ⟨8 * b + k, 8 * a + q, ox, oy, s, hcl _ _ s oy (by omega) (by omega) cd, by omega, cd, ?_⟩
    rw [show (8 * b + k) / 8 = b by omega, show (8 * a + q) / 8 = a by omega]
    exact m
  · rintro ⟨x, y, ⟨x1, x2⟩, ⟨y1, y2⟩, sx, sy, hlt, cd, m⟩
    refine ⟨y / 8, by omega, (anyB_iff _).mpr ⟨x / 8, hlt, (bad _ _ (by omega) hlt).mpr ⟨x % 8, y % 8, x2, y2, ?_, ?_, m⟩⟩⟩
    · rw [show 8 * (x / 8) + x % 8 = x by omega]; exact sx
    · rw [show 8 * (x / 8) + x % 8 = x by omega, show 8 * (y / 8) + y % 8 = y by omega]; exact cd
theorem cntB_pos {f : Nat → Bool} {k : Nat} (h : f k = true) : ∀ n, k < n → cntB f n ≠ 0
  | 0, hk => by omega
  | n + 1, hk => by
    simp only [cntB]
    by_cases e : k = n
    · subst e
      rw [if_pos h]; omega
    · have := cntB_pos h n (by omega)
      omega
theorem cnt2_pos {f : Nat → Nat → Bool} {u k t : Nat} (ht : t < u) (h : f k t = true) : ∀ n, k < n → cnt2 f u n ≠ 0
  | 0, hk => by omega
  | n + 1, hk => by
    simp only [cnt2]
    by_cases e : k = n
    · subst e
      have := cntB_pos (f := f k) h u ht
      omega
    · have := cnt2_pos ht h n (by omega)
      omega
theorem ip_iff {M : Nat → Nat → Int32} {pn : Nat → Nat} {cn : Nat} {S : LSt} (hL : LInv M pn cn S) (hX : IXY M cn pn) (hA : IAg M) (h7 : P7 cn pn) (c8 : cn ≤ 8) : ipM S.1 pn S.2 = false ↔ BD M cn pn (fun z => S.1 54 z ≠ 0) := by
  have n63 := hL.n63 c8 h7
  obtain ⟨i1, i2, i3, i4, i5⟩ := hL
  have e42 := i1 42 (by decide) (by decide)
  have e43 := i1 43 (by decide) (by decide)
  have e44 := i1 44 (by decide) (by decide)
  unfold ipM
  rw [Bool.not_eq_false', anyB_iff]
  constructor
  · rintro ⟨t, ht, h⟩
    have hn : 0 < S.2 := by
      rcases Nat.eq_zero_or_pos S.2 with z | z
      · rw [z] at ht; omega
      · exact z
    obtain ⟨x, rx, ox, sx⟩ := i4 (t / S.2) (Nat.div_lt_of_lt_mul ht)
    obtain ⟨y, ry, oy, sy⟩ := i4 (t % S.2) (Nat.mod_lt _ hn)
    have x63 := okP_lt c8 h7 ox
    have y63 := okP_lt c8 h7 oy
    unfold pbM brM at h
    rw [rx, ry, tn_nI (by omega), tn_nI (by omega), e42, e43, e44] at h
    simp only [Bool.and_eq_true, Bool.not_eq_true', decide_eq_false_iff_not, decide_eq_true_eq] at h
    obtain ⟨h1, h2, h3, _⟩ := h
    have ⟨x1, x2⟩ := ox
    have ⟨y1, y2⟩ := oy
    rcases Nat.lt_or_gt_of_ne h1 with l | l
    · exact ⟨x, y, ox, oy, sx, sy, l, h2, h3⟩
    · refine ⟨y, x, oy, ox, sy, sx, l, ?_, ?_⟩
      · have := hX.cdc (i := x / 8) (j := y / 8) (by omega) (by omega) x2 y2
        rw [show 8 * (x / 8) + x % 8 = x by omega, show 8 * (y / 8) + y % 8 = y by omega] at this
        rw [← this]; exact h2
      · rw [← hA.1 _ _ (by omega) (by omega), pr_comm, hA.1 _ _ (by omega) (by omega)]
        exact h3
  · rintro ⟨x, y, ox, oy, sx, sy, hlt, cd, m⟩
    have x63 := okP_lt c8 h7 ox
    have y63 := okP_lt c8 h7 oy
    obtain ⟨s, hs, es⟩ := i5 x (by omega) sx
    obtain ⟨t, ht, et⟩ := i5 y (by omega) sy
    have hm := Nat.mul_le_mul_left S.2 (show s + 1 ≤ S.2 by omega)
    rw [Nat.mul_succ] at hm
    refine ⟨S.2 * s + t, by omega, ?_⟩
    have hn : 0 < S.2 := by omega
    have d1 : (S.2 * s + t) / S.2 = s := by rw [Nat.mul_add_div hn, Nat.div_eq_of_lt ht]; rfl
    have d2 : (S.2 * s + t) % S.2 = t := by rw [Nat.mul_add_mod, Nat.mod_eq_of_lt ht]
    have hc : crM false M pn (x / 8) (y / 8) ≠ 0 := by
      unfold crM
      rw [if_neg (by omega)]
      refine cnt2_pos (k := x % 8) (t := y % 8) oy.2 ?_ _ ox.2
      unfold fM
      rw [show 8 * (x / 8) + x % 8 = x by omega, show 8 * (y / 8) + y % 8 = y by omega, cd]
      rfl
    unfold pbM brM
    rw [d1, d2, es, et, tn_nI (by omega), tn_nI (by omega), crM_ext e42 e43, e42, e43, e44]
    simp only [Bool.and_eq_true, Bool.not_eq_true', decide_eq_false_iff_not, decide_eq_true_eq]
    exact ⟨by omega, cd, m, hc⟩
/-- the grounds, but for what is paid -/
def IGo (M : Nat → Nat → Int32) (gn : Nat) : Prop := (∀ g, g < gn → (M (6 + g) 0 = M 45 g ∧ M (6 + g) 1 = M 46 g ∧ M (6 + g) 2 = M 47 g ∧ M (6 + g) 3 = M 48 g ∧ M (6 + g) 4 = M 49 g ∧ M (6 + g) 5 = M 50 g) ∧ (0 ≤ M 45 g ∧ M 45 g ≤ M 47 g ∧ M 47 g ≤ 99) ∧ (0 ≤ M 46 g ∧ M 46 g ≤ M 48 g ∧ M 48 g ≤ 99)) ∧
    ∀ g, g < 5 → M (6 + g) 6 = M 52 g ∧ M (6 + g) 7 = M 51 g ∧ ∃ y : Nat, M 52 g = nI y ∧ y ≤ 100
theorem IGo.of {M : Nat → Nat → Int32} {gn : Nat} (h : IGr M gn) : IGo M gn := ⟨h.1, fun g hg => by
  obtain ⟨a, b, _, y, _, c, d, _⟩ := h.2 g hg
  exact ⟨a, b, y, c, d⟩⟩
theorem IXY.to {M : Nat → Nat → Int32} {cn gn : Nat} {pn : Nat → Nat} (x : IXY M cn pn) (hG : IGo M gn) {j k u : Nat} (hj : j < cn) (hk : k < pn j) (hu : u < gn) : mtO (rX M j) (rY M j) k (M (6 + u) 0) (M (6 + u) 1) (M (6 + u) 2) (M (6 + u) 3) = toM M (8 * j + k) u := by
  obtain ⟨⟨g0, g1, g2, g3, _, _⟩, ⟨a1, a2, a3⟩, b1, b2, b3⟩ := hG.1 u hu
  rw [g0, g1, g2, g3]
  exact mt_to (x j hj k (by omega)).1.1 (x j hj (k + 1) (by omega)).1.1 (x j hj k (by omega)).1.2 (x j hj (k + 1) (by omega)).1.2 (x.c42 hj (by omega)) (x.c42 hj (k := k + 1) (by omega)) (x.c43 hj (by omega)) (x.c43 hj (k := k + 1) (by omega)) ⟨a1, Int32.le_trans a2 a3⟩ ⟨b1, Int32.le_trans b2 b3⟩ ⟨Int32.le_trans a1 a2, a3⟩ ⟨Int32.le_trans b1 b2, b3⟩ a2 b2
theorem LInv.to {M : Nat → Nat → Int32} {pn : Nat → Nat} {cn : Nat} {S : LSt} (hL : LInv M pn cn S) (p g : Nat) : toM S.1 p g = toM M p g :=
  toM_ext (hL.1 42 (by decide) (by decide)) (hL.1 43 (by decide) (by decide)) (hL.1 45 (by decide) (by decide)) (hL.1 46 (by decide) (by decide)) (hL.1 47 (by decide) (by decide)) (hL.1 48 (by decide) (by decide)) p g
theorem ow_it {M : Nat → Nat → Int32} {pn : Nat → Nat} {cn gn g : Nat} {L : Int64} {mo : Int32} {S : LSt} (hL : LInv M pn cn S) (hX : IXY M cn pn) (hG : IGo M gn) (h7 : P7 cn pn) (c8 : cn ≤ 8) (hS : ∀ z, z < 64 → (gb L z = true ↔ S.1 54 z ≠ 0)) (hg : g < gn) : owO M pn cn L mo g = itM S.1 g mo S.2 := by
  have hto := hL.to
  obtain ⟨i1, i2, i3, i4, i5⟩ := hL
  obtain ⟨⟨_, _, _, _, g4, g5⟩, _⟩ := hG.1 g hg
  unfold owO itM
  rw [g4, g5, shut_cl, i1 49 (by decide) (by decide), i1 50 (by decide) (by decide)]
  refine congrArg _ ?_
  rw [Bool.eq_iff_iff, anyB_iff, anyB_iff]
  constructor
  · rintro ⟨c, hc, h⟩
    unfold mbO at h
    obtain ⟨q, hq, h⟩ := (anyB_iff _).mp h
    have hc7 := h7 c hc
    rw [Bool.and_eq_true, inL_gb (by omega), hX.to hG hc hq hg] at h
    obtain ⟨t, ht, et⟩ := i5 (8 * c + q) (by omega) ((hS _ (by omega)).mp h.1)
    refine ⟨t, ht, ?_⟩
    unfold ttM
    rw [et, tn_nI (by omega), hto]
    exact h.2
  · rintro ⟨t, ht, h⟩
    obtain ⟨r, er, ok, s⟩ := i4 t ht
    have r63 := okP_lt c8 h7 ok
    unfold ttM at h
    rw [er, tn_nI (by omega), hto] at h
    have ok1 := ok.1
    refine ⟨r / 8, by omega, ?_⟩
    unfold mbO
    refine (anyB_iff _).mpr ⟨r % 8, ok.2, ?_⟩
    rw [Bool.and_eq_true, inL_gb (by omega), hX.to hG (show r / 8 < cn by omega) ok.2 hg, show 8 * (r / 8) + r % 8 = r by omega]
    exact ⟨(hS _ (by omega)).mpr s, h⟩
theorem ppM_ext {M M' : Nat → Nat → Int32} (h : ∀ q, q ≠ 53 → M' q = M q) (n : Nat) (mo : Int32) (g : Nat) : ppM M' n mo g = ppM M n mo g := by
  have e : ttM M' g = ttM M g := by
    funext k
    unfold ttM
    rw [h 55 (by decide), toM_ext (h 42 (by decide)) (h 43 (by decide)) (h 45 (by decide)) (h 46 (by decide)) (h 47 (by decide)) (h 48 (by decide))]
  unfold ppM itM
  rw [e, h 49 (by decide), h 50 (by decide), h 51 (by decide), h 52 (by decide)]
theorem ppM_pd (M : Nat → Nat → Int32) (n : Nat) (mo : Int32) (b : Bool) (g t : Nat) : ppM (pdM M n mo b g) n mo t = ppM M n mo t := ppM_ext (fun q hq => pdM_ne hq g) n mo t
theorem pr_eq {M : Nat → Nat → Int32} {gn g : Nat} (hG : IGo M gn) (hg : g < 5) : prO (M (6 + g) 6) (M (6 + g) 7) = prM (M 52 g) (M 51 g) := by
  obtain ⟨a, b, y, c, d⟩ := hG.2 g hg
  rw [a, b]
  unfold prO prM
  have e1 : (M 52 g ≤ 0) ↔ y = 0 := by rw [c]; exact nle0 (by omega)
  have e2 : (M 52 g = 0) ↔ y = 0 := by rw [c]; exact nI_eq (b := 0) (by omega) (by omega)
  by_cases h : y = 0
  · rw [if_pos (e1.mpr h), if_pos (e2.mpr h)]
  · rw [if_neg (fun z => h (e1.mp z)), if_neg (fun z => h (e2.mp z))]
theorem LInv.pp {M : Nat → Nat → Int32} {pn : Nat → Nat} {cn gn g : Nat} {L : Int64} {mo : Int32} {S : LSt} (hL : LInv M pn cn S) (hX : IXY M cn pn) (hG : IGo M gn) (h7 : P7 cn pn) (c8 : cn ≤ 8) (g5 : gn ≤ 5) (hS : ∀ z, z < 64 → (gb L z = true ↔ S.1 54 z ≠ 0)) (hg : g < gn) : ppM S.1 S.2 mo g = if owO M pn cn L mo g = true then prO (M (6 + g) 6) (M (6 + g) 7) else 0 := by
  unfold ppM
  rw [ow_it hL hX hG h7 c8 hS hg, pr_eq hG (by omega), hL.1 52 (by decide) (by decide), hL.1 51 (by decide) (by decide)]
theorem co_sm {M : Nat → Nat → Int32} {pn : Nat → Nat} {cn gn : Nat} {L : Int64} {mo : Int32} {S : LSt} (hL : LInv M pn cn S) (hX : IXY M cn pn) (hG : IGo M gn) (h7 : P7 cn pn) (c8 : cn ≤ 8) (g5 : gn ≤ 5) (hS : ∀ z, z < 64 → (gb L z = true ↔ S.1 54 z ≠ 0)) (hc : bcI L = nI S.2) (b : Bool) : ∀ g, g ≤ gn → coO M pn cn L mo g = smM S.1 S.2 mo b g
  | 0, _ => by
    show 10 * bcI L = nI (10 * S.2)
    rw [hc]
    exact pk_mul 10 S.2
  | g + 1, hg => by
    rw [coO, smM, ppM_pd, hL.pp hX hG h7 c8 g5 hS (by omega), co_sm hL hX hG h7 c8 g5 hS hc b g (by omega)]
    by_cases e : owO M pn cn L mo g = true
    · rw [if_pos e, if_pos e]
    · rw [if_neg e, if_neg e, Int32.add_zero]
theorem LF_cl {M : Nat → Nat → Int32} {pn : Nat → Nat} {cn y : Nat} (h7 : P7 cn pn) (c8 : cn ≤ 8) (hy : okP cn pn y) {x z : Nat} (hx : (LF M pn cn y).1 54 x ≠ 0) (hz : okP cn pn z) (hlt : x / 8 < z / 8) (x64 : x < 64) (hcd : cdM (M 42) (M 43) x z = true) : (LF M pn cn y).1 54 z ≠ 0 := by
  have z63 := okP_lt c8 h7 hz
  have hc : y / 8 < cn := by have := hy.1; omega
  rw [LF_iff c8 h7 hy x64] at hx
  rw [LF_iff c8 h7 hy (by omega)]
  exact lfS_closed hc hy rfl h7 hx hz hlt hcd
theorem ps_ip {M : Nat → Nat → Int32} {pn : Nat → Nat} {cn j k : Nat} (hX : IXY M cn pn) (hA : IAg M) (h7 : P7 cn pn) (c8 : cn ≤ 8) (hj : j < cn) (hk : k < pn j) : psO M pn (liO M pn cn j k) cn = ipM (LF M pn cn (8 * j + k)).1 pn (LF M pn cn (8 * j + k)).2 := by
  have hy := okP_of h7 hj hk
  have e1 := ps_iff (L := liO M pn cn j k) (S := fun z => (LF M pn cn (8 * j + k)).1 54 z ≠ 0) hX hA h7 c8 (fun z hz => L_iff hX h7 c8 hj hk hz) (fun x z hx hz hlt x64 hcd => LF_cl h7 c8 hy hx hz hlt x64 hcd)
  have e2 := ip_iff (LF_inv (M := M) c8 h7 hy) hX hA h7 c8
  have e3 := e1.trans e2.symm
  cases a : psO M pn (liO M pn cn j k) cn with
  | false => exact (e3.mp a).symm
  | true =>
    cases b : ipM (LF M pn cn (8 * j + k)).1 pn (LF M pn cn (8 * j + k)).2 with
    | true => rfl
    | false => rw [e3.mpr b] at a; exact a.symm
/-- the cost, or none -/
theorem rp_eq {M : Nat → Nat → Int32} {pn : Nat → Nat} {cn gn j k : Nat} {mo : Int32} (hX : IXY M cn pn) (hA : IAg M) (hG : IGo M gn) (h7 : P7 cn pn) (c8 : cn ≤ 8) (g5 : gn ≤ 5) (hj : j < cn) (hk : k < pn j) (b : Bool) : rpR M pn cn gn (8 * j + k) mo b = if psO M pn (liO M pn cn j k) cn = true then coO M pn cn (liO M pn cn j k) mo gn else -1 := by
  unfold rpR
  rw [ps_ip hX hA h7 c8 hj hk, co_sm (LF_inv (M := M) c8 h7 (okP_of h7 hj hk)) hX hG h7 c8 g5 (fun z hz => L_iff hX h7 c8 hj hk hz) (L_cnt hX h7 c8 hj hk) b gn (Nat.le_refl _)]
