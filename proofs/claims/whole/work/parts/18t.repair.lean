/-! The calls cost and repair. -/
theorem up2_same (M : Nat → Nat → Int32) (i k : Nat) : up2 M i k (M i k) = M := by
  funext a b
  by_cases e : a = i
  · subst e
    rw [up2_self]
    simp only [upd]
    by_cases e2 : b = k
    · subst e2; simp
    · simp [e2]
  · rw [up2_ne _ _ _ e]
theorem pdM_f (M : Nat → Nat → Int32) (n : Nat) (mo : Int32) : ∀ g, pdM M n mo false g = M
  | 0 => rfl
  | g + 1 => by
    rw [pdM, pdM_f M n mo g, if_neg (by decide), Int32.add_zero]
    exact up2_same M 53 g
theorem rpM_f {M : Nat → Nat → Int32} {pn : Nat → Nat} {cn gn y : Nat} {mo : Int32} (c8 : cn ≤ 8) (h7 : P7 cn pn) (hy : okP cn pn y) : ∀ q, q ≠ 54 → q ≠ 55 → rpM M pn cn gn y mo false q = M q := by
  intro q h1 h2
  have hI := (LF_inv (M := M) c8 h7 hy).1 q h1 h2
  unfold rpM
  split
  · rw [pdM_f]; exact hI
  · exact hI
theorem IGo.k {M M' : Nat → Nat → Int32} {gn : Nat} (h : IGo M gn) (g5 : gn ≤ 5) (h1 : ∀ g k, g < 5 → k < 8 → M' (6 + g) k = M (6 + g) k) (hm : ∀ q, 42 ≤ q → q < 53 → M' q = M q) : IGo M' gn := by
  refine ⟨fun g hg => ?_, fun g hg => ?_⟩
  · rw [h1 g 0 (by omega) (by decide), h1 g 1 (by omega) (by decide), h1 g 2 (by omega) (by decide), h1 g 3 (by omega) (by decide), h1 g 4 (by omega) (by decide), h1 g 5 (by omega) (by decide), hm 45 (by decide) (by decide), hm 46 (by decide) (by decide), hm 47 (by decide) (by decide), hm 48 (by decide) (by decide), hm 49 (by decide) (by decide), hm 50 (by decide) (by decide)]
    exact h.1 g hg
  · rw [h1 g 6 hg (by decide), h1 g 7 hg (by decide), hm 51 (by decide) (by decide), hm 52 (by decide) (by decide)]
    exact h.2 g hg
/-- what lifting and its costs read is the same -/
def RW (M' M : Nat → Nat → Int32) : Prop := EO M' M ∧ ∀ q, 42 ≤ q → q < 53 → M' q = M q
theorem RW.xy {M M' : Nat → Nat → Int32} {cn : Nat} {pn : Nat → Nat} (w : RW M' M) (h : IXY M cn pn) (c8 : cn ≤ 8) : IXY M' cn pn := h.k (fun i hi => ⟨w.1.1 i (by omega), w.1.2.1 i (by omega)⟩) (w.2 42 (by decide) (by decide)) (w.2 43 (by decide) (by decide))
theorem RW.ag {M M' : Nat → Nat → Int32} (w : RW M' M) (h : IAg M) : IAg M' := h.k w.1.2.2.1 (w.2 44 (by decide) (by decide))
theorem RW.go {M M' : Nat → Nat → Int32} {gn : Nat} (w : RW M' M) (h : IGo M gn) (g5 : gn ≤ 5) : IGo M' gn := h.k g5 w.1.2.2.2 w.2
theorem RW.ip {M M' : Nat → Nat → Int32} {cn gn dn j k : Nat} {pn : Nat → Nat} (w : RW M' M) (h : Inv M cn gn dn pn) (hj : j < cn) (hk : k < pn j) : ipM (LF M' pn cn (8 * j + k)).1 pn (LF M' pn cn (8 * j + k)).2 = psO M pn (liO M pn cn j k) cn := by
  rw [← ps_ip (w.xy h.ixy h.o.c8) (w.ag h.ga) h.m.pp h.o.c8 hj hk, liO_ext w.1 pn hj h.o.c8, psO_ext w.1 pn _ h.o.c8]
theorem RW.rp {M M' : Nat → Nat → Int32} {cn gn dn j k : Nat} {pn : Nat → Nat} {mo : Int32} (w : RW M' M) (h : Inv M cn gn dn pn) (hj : j < cn) (hk : k < pn j) (b : Bool) : rpR M' pn cn gn (8 * j + k) mo b = if psO M pn (liO M pn cn j k) cn = true then coO M pn cn (liO M pn cn j k) mo gn else -1 := by
  have c8 := h.o.c8
  have g5 := h.o.g5
  rw [rp_eq (w.xy h.ixy c8) (w.ag h.ga) (w.go (IGo.of h.gr) g5) h.m.pp c8 g5 hj hk b, liO_ext w.1 pn hj c8, psO_ext w.1 pn _ c8, coO_ext w.1 pn c8 _ mo gn g5]
theorem RW.of {M M' : Nat → Nat → Int32} (h : ∀ q, q ≠ 0 → q ≠ 38 → q < 53 → M' q = M q) : RW M' M := ⟨EO.of (fun q h1 h2 => h q h1 (by omega) (by omega)), fun q h1 h2 => h q (by omega) (by omega) h2⟩
theorem st_cost {M : Nat → Nat → Int32} {cn gn dn : Nat} {pn : Nat → Nat} (h : Inv M cn gn dn pn) (a q mo : Int32) : St_cost M cn gn dn pn a q mo := by
  obtain ⟨MF, hMF⟩ : ∃ MF, MF = oM_cost M cn gn dn pn a q mo := ⟨_, rfl⟩
  unfold St_cost
  rw [← hMF]
  have c8 := h.o.c8
  have h7 := h.m.pp
  cases hp : pcM cn pn a q with
  | false =>
    have he : orE (erPc cn pn a q) (erMo mo) = some eX := by rw [erPc_cb c8 h7, hp]; rfl
    have hc : (if pcM cn pn a q = false then 1 else if moM mo = true then 0 else 2 : Int32) = 1 := if_pos hp
    unfold mM_cost mV_cost oK_cost
    rw [hc]
    exact ref_no h (by decide) he hMF rfl
  | true =>
    cases hm : moM mo with
    | false =>
      have he : orE (erPc cn pn a q) (erMo mo) = some eA := by rw [erPc_cb c8 h7, hp, erMo_cb, hm]; rfl
      have hc : (if pcM cn pn a q = false then 1 else if moM mo = true then 0 else 2 : Int32) = 2 := by rw [if_neg (by rw [hp]; decide), if_neg (by rw [hm]; decide)]
      unfold mM_cost mV_cost oK_cost
      rw [hc]
      exact ref_no h (by decide) he hMF rfl
    | true =>
      have he : orE (erPc cn pn a q) (erMo mo) = none := by rw [erPc_cb c8 h7, hp, erMo_cb, hm]; rfl
      have hc : (if pcM cn pn a q = false then 1 else if moM mo = true then 0 else 2 : Int32) = 0 := by rw [if_neg (by rw [hp]; decide), if_pos hm]
      obtain ⟨j, k, hj, rfl, hk, rfl⟩ := pcM_true c8 h7 hp
      have hk7 := h7 j hj
      have tj : tn (nI j) = j := tn_nI (by omega)
      have tk : tn (nI k) = k := tn_nI (by omega)
      unfold oM_cost at hMF
      rw [if_pos he, tj, tk] at hMF
      unfold mM_cost mV_cost oK_cost
      rw [tj, tk]
      refine ask_ok h hMF hc he (rpM_f c8 h7 (okP_of h7 hj hk)) ?_ _
      subst hMF
      exact RW.rp (RW.of (fun q h1 h2 h3 => by rw [up2_ne _ _ _ h2, up2_ne _ _ _ (by omega)])) h hj hk false
/-- what a repair pays, office and model -/
theorem pgM_ne {M : Nat → Nat → Int32} {pn : Nat → Nat} {cn : Nat} {L : Int64} {mo : Int32} {q : Nat} : ∀ g, (∀ t, t < g → q ≠ 6 + t) → pgM M pn cn L mo g q = M q
  | 0, _ => rfl
  | g + 1, h => by
    have ih := pgM_ne (M := M) (pn := pn) (cn := cn) (L := L) (mo := mo) (q := q) g (fun t ht => h t (by omega))
    rw [pgM]
    split
    · rw [up2_ne _ _ _ (h g (by omega))]; exact ih
    · exact ih
theorem pgM_k {M : Nat → Nat → Int32} {pn : Nat → Nat} {cn : Nat} {L : Int64} {mo : Int32} {q k : Nat} (hk : k ≠ 8) : ∀ g, pgM M pn cn L mo g q k = M q k
  | 0 => rfl
  | g + 1 => by
    have ih := pgM_k (M := M) (pn := pn) (cn := cn) (L := L) (mo := mo) (q := q) hk g
    rw [pgM]
    split
    · by_cases e : q = 6 + g
      · subst e; rw [up2_off _ _ _ hk]; exact ih
      · rw [up2_ne _ _ _ e]; exact ih
    · exact ih
theorem pgM_eo {M : Nat → Nat → Int32} {pn : Nat → Nat} {cn : Nat} {L : Int64} {mo : Int32} {g : Nat} (hg : g ≤ 5) : EO (pgM M pn cn L mo g) M :=
  ⟨fun i _ => pgM_ne g (fun t ht => by omega), fun i _ => pgM_ne g (fun t ht => by omega), pgM_ne g (fun t ht => by omega), fun t k _ hk => pgM_k (by omega) g⟩
theorem pgM_8 {M : Nat → Nat → Int32} {pn : Nat → Nat} {cn : Nat} {L : Int64} {mo : Int32} (c8 : cn ≤ 8) : ∀ g, g ≤ 5 → ∀ t, t < 5 → pgM M pn cn L mo g (6 + t) 8 = if t < g then M (6 + t) 8 + (if owO M pn cn L mo t = true then prO (M (6 + t) 6) (M (6 + t) 7) else 0) else M (6 + t) 8
  | 0, _, t, _ => rfl
  | g + 1, hg, t, ht => by
    have ih := pgM_8 (M := M) (pn := pn) (L := L) (mo := mo) c8 g (by omega)
    rw [pgM, owO_ext (pgM_eo (by omega)) pn c8 L mo (by omega), pgM_k (q := 6 + g) (k := 6) (by decide), pgM_k (q := 6 + g) (k := 7) (by decide)]
    by_cases e : t = g
    · subst e
      rw [if_pos (show t < t + 1 by omega)]
      by_cases o : owO M pn cn L mo t = true
      · rw [if_pos o, if_pos o, up2_at, ih t ht, if_neg (by omega)]
      · rw [if_neg o, if_neg o, ih t ht, if_neg (by omega), Int32.add_zero]
    · have h1 : (if owO M pn cn L mo g = true then up2 (pgM M pn cn L mo g) (6 + g) 8 (pgM M pn cn L mo g (6 + g) 8 + prO (M (6 + g) 6) (M (6 + g) 7)) else pgM M pn cn L mo g) (6 + t) 8 = pgM M pn cn L mo g (6 + t) 8 := by
        split
        · rw [up2_ne _ _ _ (by omega)]
        · rfl
      rw [h1, ih t ht]
      by_cases l : t < g
      · rw [if_pos l, if_pos (show t < g + 1 by omega)]
      · rw [if_neg l, if_neg (show ¬ t < g + 1 by omega)]
theorem pdM_t {M : Nat → Nat → Int32} {n : Nat} {mo : Int32} : ∀ g t, pdM M n mo true g 53 t = if t < g then M 53 t + ppM M n mo t else M 53 t
  | 0, t => rfl
  | g + 1, t => by
    rw [pdM, if_pos rfl, ppM_pd]
    by_cases e : t = g
    · subst e
      rw [up2_at, pdM_t t t, if_neg (by omega), if_pos (by omega)]
    · rw [up2_off _ _ _ e, pdM_t g t]
      by_cases l : t < g
      · rw [if_pos l, if_pos (by omega)]
      · rw [if_neg l, if_neg (by omega)]
/-- a cost is not below zero -/
theorem co_nn {M : Nat → Nat → Int32} {pn : Nat → Nat} {cn gn : Nat} {L : Int64} {mo : Int32} (hG : IGr M gn) : ∀ g, g ≤ 5 → ∃ w : Nat, w ≤ 640 + 1000000 * g ∧ coO M pn cn L mo g = nI w
  | 0, _ => by
    have := cntB_le (gb L) 64
    refine ⟨10 * cntB (gb L) 64, by omega, ?_⟩
    rw [coO, bcI_c]
    exact pk_mul 10 _
  | g + 1, hg => by
    obtain ⟨w, hw, e⟩ := co_nn (pn := pn) (cn := cn) (L := L) (mo := mo) hG g (by omega)
    rw [coO]
    split
    · obtain ⟨a, b, _, y, u, c, d, e2, f⟩ := hG.2 g (by omega)
      rw [pr_eq (IGo.of hG) (by omega), c, e2, e]
      unfold prM
      by_cases hy : y = 0
      · subst hy
        have z0 : nI 0 = (0 : Int32) := rfl
        rw [if_pos z0]
        exact ⟨w, by omega, Int32.add_zero _⟩
      · have hd := (h_div (a := u) (d := y) (by omega) (by omega) (by omega)).2.1
        have hu : u / y ≤ 1000000 := Nat.div_le_of_le_mul (by rw [Nat.mul_comm]; exact f)
        have z1 : ¬ nI y = (0 : Int32) := fun z => hy ((nI_eq (a := y) (b := 0) (by omega) (by omega)).mp z)
        rw [if_neg z1, hd, nI_add]
        exact ⟨w + u / y, by omega, rfl⟩
    · exact ⟨w, by omega, e⟩
theorem st_repair {M : Nat → Nat → Int32} {cn gn dn : Nat} {pn : Nat → Nat} (h : Inv M cn gn dn pn) (a q mo : Int32) : St_repair M cn gn dn pn a q mo := by
  obtain ⟨MF, hMF⟩ : ∃ MF, MF = oM_repair M cn gn dn pn a q mo := ⟨_, rfl⟩
  unfold St_repair
  rw [← hMF]
  have c8 := h.o.c8
  have g5 := h.o.g5
  have h7 := h.m.pp
  cases hp : pcM cn pn a q with
  | false =>
    have he : erRe M cn pn a q mo = some eX := by rw [erRe, erPc_cb c8 h7, hp]; rfl
    have hc : cdRe MF cn gn pn a q mo = 1 := if_pos hp
    have hr : reM MF cn gn pn a q mo = MF := if_pos (Or.inl hp)
    unfold mM_repair mV_repair oK_repair
    rw [hc, hr]
    exact ref_no h (by decide) he hMF rfl
  | true =>
    cases hm : moM mo with
    | false =>
      have he : erRe M cn pn a q mo = some eA := by rw [erRe, erPc_cb c8 h7, hp, erMo_cb, hm]; rfl
      have hc : cdRe MF cn gn pn a q mo = 2 := by rw [cdRe, if_neg (by rw [hp]; decide), if_pos hm]
      have hr : reM MF cn gn pn a q mo = MF := if_pos (Or.inr (Or.inl hm))
      unfold mM_repair mV_repair oK_repair
      rw [hc, hr]
      exact ref_no h (by decide) he hMF rfl
    | true =>
      obtain ⟨j, k, hj, rfl, hk, rfl⟩ := pcM_true c8 h7 hp
      have hk7 := h7 j hj
      have tj : tn (nI j) = j := tn_nI (by omega)
      have tk : tn (nI k) = k := tn_nI (by omega)
      obtain ⟨r0, r, hr, hr5⟩ := h.re
      have h500 : (500 ≤ M 0 8) ↔ r = 500 := by
        rw [r0, hr]
        exact (nI_leI (a := 500) (b := r) (by omega) (by omega)).trans (by omega)
      have h19 : (M 38 19 = 500) ↔ r = 500 := by
        rw [hr]
        exact nI_eq (b := 500) (by omega) (by omega)
      have heR : erRe M cn pn (nI j) (nI k) mo = if 500 ≤ M 0 8 ∨ psO M pn (liO M pn cn j k) cn = false then some eI else none := by
        rw [erRe, erPc_cb c8 h7, hp, erMo_cb, hm, tj, tk]; rfl
      have hcR : ∀ N : Nat → Nat → Int32, cdRe N cn gn pn (nI j) (nI k) mo = if N 38 19 = 500 ∨ rpR N pn cn gn (8 * j + k) mo false = -1 then 3 else 0 := by
        intro N
        rw [cdRe, if_neg (by rw [hp]; decide), if_neg (by rw [hm]; decide), tj, tk]
      have hyk := okP_of h7 hj hk
      by_cases hr2 : r = 500
      · have he : erRe M cn pn (nI j) (nI k) mo = some eI := by rw [heR, if_pos (Or.inl (h500.mpr hr2))]
        have hMF' := hMF
        unfold oM_repair at hMF'
        rw [if_neg (by rw [he]; exact fun z => nomatch z)] at hMF'
        have hc : cdRe MF cn gn pn (nI j) (nI k) mo = 3 := by rw [hcR, hMF', if_pos (Or.inl (h19.mpr hr2))]
        have hre : reM MF cn gn pn (nI j) (nI k) mo = MF := if_pos (Or.inr (Or.inr (by rw [hMF']; exact h19.mpr hr2)))
        unfold mM_repair mV_repair oK_repair
        rw [hc, hre]
        exact ref_no h (by decide) he hMF rfl
      · cases hps : psO M pn (liO M pn cn j k) cn with
        | false =>
          have he : erRe M cn pn (nI j) (nI k) mo = some eI := by rw [heR, if_pos (Or.inr hps)]
          have hMF' := hMF
          unfold oM_repair at hMF'
          rw [if_neg (by rw [he]; exact fun z => nomatch z)] at hMF'
          have hrp := RW.rp (M' := M) (mo := mo) (RW.of (fun _ _ _ _ => rfl)) h hj hk false
          rw [hps, if_neg (by decide)] at hrp
          have hc : cdRe MF cn gn pn (nI j) (nI k) mo = 3 := by rw [hcR, hMF', if_pos (Or.inr hrp)]
          unfold mM_repair mV_repair oK_repair
          rw [hc]
          refine ref_no2 h (by decide) he hMF rfl (fun q h1 h2 => ?_)
          unfold reM
          rw [tj, tk]
          split
          · rfl
          · exact rpM_f c8 h7 hyk q h1 h2
        | true =>
          have he : erRe M cn pn (nI j) (nI k) mo = none := by
            rw [heR, if_neg (fun z => z.elim (fun z => hr2 (h500.mp z)) (fun z => by rw [hps] at z; cases z))]
          obtain ⟨L, hL⟩ : ∃ L, L = liO M pn cn j k := ⟨_, rfl⟩
          obtain ⟨M1, hM1⟩ : ∃ M1, M1 = up2 M 0 8 (M 0 8 + 1) := ⟨_, rfl⟩
          obtain ⟨PG, hPG⟩ : ∃ PG, PG = pgM M1 pn cn L mo gn := ⟨_, rfl⟩
          obtain ⟨V, hV⟩ : ∃ V, V = coO PG pn cn L mo gn := ⟨_, rfl⟩
          unfold oM_repair at hMF
          rw [if_pos he, tj, tk, ← hL, ← hM1, ← hPG, ← hV] at hMF
          -- rows of what the office leaves
          have p1 : ∀ q, q ≠ 0 → M1 q = M q := fun q hq => by rw [hM1, up2_ne _ _ _ hq]
          have e1 : EO M1 M := EO.of (fun q h1 _ => p1 q h1)
          have ePG : EO PG M := (by rw [hPG]; exact EO.tr (pgM_eo g5) e1)
          have fR : ∀ q, q ≠ 0 → q ≠ 56 → (∀ t, t < 5 → q ≠ 6 + t) → MF q = M q := by
            intro q h1 h2 h3
            rw [hMF, up2_ne _ _ _ h2, hPG, pgM_ne gn (fun t ht => h3 t (by omega))]
            exact p1 q h1
          have fO : ∀ q, q < 54 → MF q = PG q := fun q hq => by rw [hMF, up2_ne _ _ _ (by omega)]
          have eF : EO MF M := EO.tr (EO.of (fun q _ hq => fO q (by omega))) ePG
          have wF : RW MF M := ⟨eF, fun q h1 h2 => fR q (by omega) (by omega) (fun t ht => by omega)⟩
          have hV2 : V = coO M pn cn L mo gn := by rw [hV, coO_ext ePG pn c8 L mo gn g5]
          obtain ⟨w, hw, hwV⟩ := co_nn (pn := pn) (cn := cn) (L := L) (mo := mo) h.gr gn g5
          have f38 : MF 38 = M 38 := fR 38 (by decide) (by decide) (fun t ht => by omega)
          have hrpF := wF.rp (mo := mo) h hj hk false
          rw [hps, if_pos rfl, ← hL, hwV] at hrpF
          have hc : cdRe MF cn gn pn (nI j) (nI k) mo = 0 := by
            rw [hcR, if_neg]
            rintro (z | z)
            · rw [f38] at z; exact hr2 (h19.mp z)
            · rw [hrpF] at z
              exact nn0 (j := w) (by omega) (by rw [z]; decide)
          -- the model's second walk
          obtain ⟨N1, hN1⟩ : ∃ N1, N1 = rpM MF pn cn gn (8 * j + k) mo false := ⟨_, rfl⟩
          have n1 : ∀ q, q ≠ 54 → q ≠ 55 → N1 q = MF q := fun q h1 h2 => by rw [hN1]; exact rpM_f c8 h7 hyk q h1 h2
          obtain ⟨M3, hM3⟩ : ∃ M3, M3 = up2 (up2 N1 38 0 0) 38 19 (MF 38 19 + 1) := ⟨_, rfl⟩
          have m3 : ∀ q, q ≠ 38 → q < 54 → M3 q = MF q := fun q h1 h2 => by rw [hM3, up2_ne _ _ _ h1, up2_ne _ _ _ h1]; exact n1 q (by omega) (by omega)
          have m56 : M3 56 = MF 56 := by rw [hM3, up2_ne _ _ _ (by decide), up2_ne _ _ _ (by decide)]; exact n1 56 (by decide) (by decide)
          have w3F : RW M3 MF := RW.of (fun q _ h2 h3 => m3 q h2 (by omega))
          have w3 : RW M3 M := ⟨EO.tr w3F.1 eF, fun q h1 h2 => (w3F.2 q h1 h2).trans (wF.2 q h1 h2)⟩
          have hrp3 := w3.rp (mo := mo) h hj hk true
          rw [hps, if_pos rfl, ← hL, ← hV2] at hrp3
          have hip := w3.ip h hj hk
          rw [hps] at hip
          obtain ⟨MR, hMR⟩ : ∃ MR, MR = rpM M3 pn cn gn (8 * j + k) mo true := ⟨_, rfl⟩
          have mr : ∀ q, q ≠ 53 → q ≠ 54 → q ≠ 55 → MR q = M3 q := fun q h1 h2 h3 => by rw [hMR]; exact rpM_ne c8 h7 hyk h1 h2 h3
          have mrF : ∀ q, q ≠ 38 → q < 53 → MR q = MF q := fun q h1 h2 => (mr q (by omega) (by omega) (by omega)).trans (m3 q h1 (by omega))
          have mrM : ∀ q, q ≠ 0 → q ≠ 38 → q < 53 → (∀ t, t < 5 → q ≠ 6 + t) → MR q = M q := fun q h1 h2 h3 h4 => (mrF q h2 h3).trans (fR q h1 (by omega) h4)
          have mr38 : ∀ i, i ≠ 0 → i ≠ 19 → MR 38 i = M 38 i := by
            intro i h1 h2
            rw [mr 38 (by decide) (by decide) (by decide), hM3, up2_off _ _ _ h2, up2_off _ _ _ h1, n1 38 (by decide) (by decide), f38]
          have mr0 : MR 38 0 = 0 := by
            rw [mr 38 (by decide) (by decide) (by decide), hM3, up2_off _ _ _ (by decide), up2_at]
          have mr19 : MR 38 19 = M 38 19 + 1 := by
            rw [mr 38 (by decide) (by decide) (by decide), hM3, up2_at, f38]
          have mr56 : MR 56 0 = V := by
            rw [mr 56 (by decide) (by decide) (by decide), m56, hMF, up2_at]
          have mr08 : MR 0 8 = M 0 8 + 1 := by
            rw [mrF 0 (by decide) (by decide), fO 0 (by decide), hPG, pgM_ne gn (fun t _ => by omega), hM1, up2_at]
          have mrg : ∀ g i, g < 5 → i < 8 → MR (6 + g) i = M (6 + g) i := by
            intro g i hg hi
            rw [mrF (6 + g) (by omega) (by omega)]
            exact eF.2.2.2 g i hg hi
          have o53 : MF 53 = M 53 := fR 53 (by decide) (by decide) (fun t ht => by omega)
          have mr8 : ∀ g, g < 5 → MR (6 + g) 8 = MR 53 g := by
            intro g hg
            obtain ⟨_, _, g8, _⟩ := h.gr.2 g hg
            rw [mrF (6 + g) (by omega) (by omega), fO (6 + g) (by omega), hPG, pgM_8 c8 gn g5 g hg, owO_ext e1 pn c8 L mo hg, p1 (6 + g) (by omega)]
            have hLI := LF_inv (M := M3) c8 h7 hyk
            have l53 : (LF M3 pn cn (8 * j + k)).1 53 = M 53 := by rw [hLI.1 53 (by decide) (by decide), m3 53 (by decide) (by decide), o53]
            rw [hMR, rpM, if_pos hip, pdM_t, l53, g8]
            by_cases l : g < gn
            · rw [if_pos l, if_pos l]
              have hx3 := w3.xy h.ixy c8
              have hb := fun z (hz : z < 64) => L_iff hx3 h7 c8 hj hk hz
              rw [hLI.pp hx3 (w3.go (IGo.of h.gr) g5) h7 c8 g5 hb l, liO_ext w3.1 pn hj c8, ← hL, owO_ext w3.1 pn c8 L mo hg, w3.1.2.2.2 g 6 hg (by decide), w3.1.2.2.2 g 7 hg (by decide)]
            · rw [if_neg l, if_neg l]
          have hOPG : OkO PG cn gn dn pn := by rw [hPG, hM1]; exact pgM_ok h.o.up8 gn (Nat.le_refl _)
          have hInv : Inv MR cn gn dn pn := by
            refine Inv.of (hOPG.keep ?_ (fun i hi => ?_)) (h.m.keep mr38 ?_) ?_ ?_ ?_ ?_ ?_ ?_
            · rw [mrF 0 (by decide) (by decide), fO 0 (by decide)]
            · rw [mrF _ (by omega) (by omega), fO _ (by omega)]
            · exact mrM 41 (by decide) (by decide) (by decide) (fun t ht => by omega)
            · exact h.ixy.k (fun i hi => ⟨mrM _ (by omega) (by omega) (by omega) (fun t ht => by omega), mrM _ (by omega) (by omega) (by omega) (fun t ht => by omega)⟩) (mrM 42 (by decide) (by decide) (by decide) (fun t ht => by omega)) (mrM 43 (by decide) (by decide) (by decide) (fun t ht => by omega))
            · exact h.dr.k (mrM _ (by decide) (by decide) (by decide) (fun t ht => by omega)) (mrM _ (by decide) (by decide) (by decide) (fun t ht => by omega)) (mrM 39 (by decide) (by decide) (by decide) (fun t ht => by omega)) (mrM 40 (by decide) (by decide) (by decide) (fun t ht => by omega))
            · exact h.ga.k (mrM 4 (by decide) (by decide) (by decide) (fun t ht => by omega)) (mrM 44 (by decide) (by decide) (by decide) (fun t ht => by omega))
            · exact h.cr.k (mrM 2 (by decide) (by decide) (by decide) (fun t ht => by omega)) (mrM 3 (by decide) (by decide) (by decide) (fun t ht => by omega)) (mrM 42 (by decide) (by decide) (by decide) (fun t ht => by omega)) (mrM 43 (by decide) (by decide) (by decide) (fun t ht => by omega))
            · have hm : ∀ q, 45 ≤ q → q < 53 → MR q = M q := fun q h1 h2 => mrM q (by omega) (by omega) h2 (fun t ht => by omega)
              refine ⟨fun g hg => ?_, fun g hg => ?_⟩
              · rw [mrg g 0 (by omega) (by decide), mrg g 1 (by omega) (by decide), mrg g 2 (by omega) (by decide), mrg g 3 (by omega) (by decide), mrg g 4 (by omega) (by decide), mrg g 5 (by omega) (by decide), hm 45 (by decide) (by decide), hm 46 (by decide) (by decide), hm 47 (by decide) (by decide), hm 48 (by decide) (by decide), hm 49 (by decide) (by decide), hm 50 (by decide) (by decide)]
                exact h.gr.1 g hg
              · obtain ⟨x1, x2, _, x4⟩ := h.gr.2 g hg
                rw [mrg g 6 hg (by decide), mrg g 7 hg (by decide), hm 51 (by decide) (by decide), hm 52 (by decide) (by decide)]
                exact ⟨x1, x2, mr8 g hg, x4⟩
            · exact ⟨by rw [mr08, mr19, r0], r + 1, by rw [mr19, hr]; exact nI_add r 1, by omega⟩
          have hOMF : OkM MF cn gn dn pn := h.m.keep (fun i _ _ => by rw [f38]) (fR 41 (by decide) (by decide) (fun t ht => by omega))
          have hR : mM_repair MF cn gn dn pn (nI j) (nI k) mo = MR := by
            unfold mM_repair
            rw [if_pos hc, tj, tk, ← hN1, ← hM3, ← hMR]
          have hVR : mV_repair MF cn gn dn pn (nI j) (nI k) mo = V := by
            unfold mV_repair
            rw [if_pos hc, tj, tk, ← hN1, ← hM3, hrp3]
          refine ⟨hOMF, ?_, fun _ => ?_, cn, gn, dn, pn, ?_⟩
          · rw [hR, mr0]
            unfold oK_repair
            rw [he]
            rfl
          · rw [hVR, hR, mr56]
          · rw [hR]; exact hInv
