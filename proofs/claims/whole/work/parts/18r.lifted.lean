/-! What is lifted: the office's bits and the model's row; the call lifted. -/
theorem L_iff {M : Nat → Nat → Int32} {pn : Nat → Nat} {cn j k : Nat} (hX : IXY M cn pn) (h7 : P7 cn pn) (c8 : cn ≤ 8) (hj : j < cn) (hk : k < pn j) {z : Nat} (hz : z < 64) : gb (liO M pn cn j k) z = true ↔ (LF M pn cn (8 * j + k)).1 54 z ≠ 0 := by
  have hp7 := h7 j hj
  rw [LF_iff c8 h7 (okP_of h7 hj hk) hz, show (8 * j + k) / 8 = j by omega]
  exact gb_lwA hX h7 c8 hj hk (cn - (j + 1)) (by omega) z hz
theorem L_cnt {M : Nat → Nat → Int32} {pn : Nat → Nat} {cn j k : Nat} (hX : IXY M cn pn) (h7 : P7 cn pn) (c8 : cn ≤ 8) (hj : j < cn) (hk : k < pn j) : bcI (liO M pn cn j k) = nI (LF M pn cn (8 * j + k)).2 := by
  rw [bcI_c, (LF_inv (M := M) c8 h7 (okP_of h7 hj hk)).2.1]
  refine congrArg nI (cntB_ext 64 (fun z hz => ?_))
  rw [Bool.eq_iff_iff, L_iff hX h7 c8 hj hk hz]
  simp
/-- the office's rows that lifting and its costs read -/
def EO (M' M : Nat → Nat → Int32) : Prop := (∀ i, i < 8 → rX M' i = rX M i) ∧ (∀ i, i < 8 → rY M' i = rY M i) ∧ M' 4 = M 4 ∧ ∀ g k, g < 5 → k < 8 → M' (6 + g) k = M (6 + g) k
theorem loO2_ext {M M' : Nat → Nat → Int32} (h : EO M' M) (pn : Nat → Nat) (L : Int64) {b a : Nat} (hb : b < 8) (ha : a < 8) (q : Nat) : loO2 M' pn L b a q = loO2 M pn L b a q := by
  unfold loO2
  rw [h.1 b hb, h.1 a ha, h.2.1 b hb, h.2.1 a ha]
theorem lyO_ext {M M' : Nat → Nat → Int32} (h : EO M' M) (pn : Nat → Nat) (L : Int64) {b a : Nat} (hb : b < 8) (ha : a < 8) : ∀ n, lyO M' pn L b a n = lyO M pn L b a n
  | 0 => rfl
  | n + 1 => by rw [lyO, lyO, lyO_ext h pn L hb ha n, loO2_ext h pn L hb ha]
theorem lwB_ext {M M' : Nat → Nat → Int32} (h : EO M' M) (pn : Nat → Nat) {cb a : Nat} (L : Int64) (ha : a < 8) : ∀ j, cb + j ≤ 8 → lwB M' pn cb a L j = lwB M pn cb a L j
  | 0, _ => rfl
  | j + 1, hj => by rw [lwB, lwB, lwB_ext h pn L ha j (by omega), lyO_ext h pn _ (by omega) ha]
theorem lwA_ext {M M' : Nat → Nat → Int32} (h : EO M' M) (pn : Nat → Nat) {cb : Nat} (q : Nat) : ∀ t, cb + 1 + t ≤ 8 → lwA M' pn cb q t = lwA M pn cb q t
  | 0, _ => rfl
  | t + 1, ht => by rw [lwA, lwA, lwA_ext h pn q t (by omega), lwB_ext h pn _ (by omega) (t + 1) (by omega)]
theorem liO_ext {M M' : Nat → Nat → Int32} (h : EO M' M) (pn : Nat → Nat) {cn a : Nat} (ha : a < cn) (c8 : cn ≤ 8) (q : Nat) : liO M' pn cn a q = liO M pn cn a q := lwA_ext h pn q _ (by omega)
theorem anyB_ext {f g : Nat → Bool} : ∀ n, (∀ j, j < n → g j = f j) → anyB g n = anyB f n
  | 0, _ => rfl
  | n + 1, h => by
    simp only [anyB]
    rw [anyB_ext n (fun j hj => h j (by omega)), h n (by omega)]
theorem psO_ext {M M' : Nat → Nat → Int32} (h : EO M' M) (pn : Nat → Nat) (L : Int64) {cn : Nat} (c8 : cn ≤ 8) : psO M' pn L cn = psO M pn L cn := by
  unfold psO
  refine congrArg Bool.not (anyB_ext cn (fun a _ => anyB_ext a (fun b _ => ?_)))
  unfold badO
  rw [h.2.2.1, lyO_ext h pn L (by omega) (by omega)]
theorem owO_ext {M M' : Nat → Nat → Int32} (h : EO M' M) (pn : Nat → Nat) {cn : Nat} (c8 : cn ≤ 8) (L : Int64) (mo : Int32) {g : Nat} (hg : g < 5) : owO M' pn cn L mo g = owO M pn cn L mo g := by
  have e : ∀ c, c < cn → mbO M' pn L g c = mbO M pn L g c := by
    intro c hc
    unfold mbO
    rw [h.1 c (by omega), h.2.1 c (by omega), h.2.2.2 g 0 hg (by decide), h.2.2.2 g 1 hg (by decide), h.2.2.2 g 2 hg (by decide), h.2.2.2 g 3 hg (by decide)]
  unfold owO
  rw [anyB_ext cn e, h.2.2.2 g 4 hg (by decide), h.2.2.2 g 5 hg (by decide)]
theorem coO_ext {M M' : Nat → Nat → Int32} (h : EO M' M) (pn : Nat → Nat) {cn : Nat} (c8 : cn ≤ 8) (L : Int64) (mo : Int32) : ∀ g, g ≤ 5 → coO M' pn cn L mo g = coO M pn cn L mo g
  | 0, _ => rfl
  | g + 1, hg => by
    rw [coO, coO, coO_ext h pn c8 L mo g (by omega), owO_ext h pn c8 L mo (by omega), h.2.2.2 g 6 (by omega) (by decide), h.2.2.2 g 7 (by omega) (by decide)]
theorem EO.of {M M' : Nat → Nat → Int32} (h : ∀ q, q ≠ 0 → q < 38 → M' q = M q) : EO M' M := by
  refine ⟨fun i _ => h _ (by omega) (by omega), fun i _ => h _ (by omega) (by omega), h 4 (by decide) (by decide), fun g k hg _ => ?_⟩
  rw [h (6 + g) (by omega) (by omega)]
theorem EO.tr {M M' M2 : Nat → Nat → Int32} (h : EO M2 M') (k : EO M' M) : EO M2 M := ⟨fun i hi => (h.1 i hi).trans (k.1 i hi), fun i hi => (h.2.1 i hi).trans (k.2.1 i hi), h.2.2.1.trans k.2.2.1, fun g j hg hj => (h.2.2.2 g j hg hj).trans (k.2.2.2 g j hg hj)⟩
/-- a call that only asks, the model's scratch rows apart -/
theorem ask_ok {M MF MA : Nat → Nat → Int32} {V R C : Int32} {cn gn dn : Nat} {pn : Nat → Nat} (h : Inv M cn gn dn pn) (hMF : MF = up2 M 56 0 V) (hC : C = 0) {err : Option String} {hs : List String} (he : err = none) (hA : ∀ q, q ≠ 54 → q ≠ 55 → MA q = up2 MF 38 0 0 q) (hv : R = V) (MB : Nat → Nat → Int32) :
    OkM MF cn gn dn pn ∧ (if C = 0 then MA else MB) 38 0 = lcd hs err ∧ (lcd hs err = 0 → (if C = 0 then R else 0) = (if C = 0 then MA else MB) 56 0) ∧ ∃ (cn1 gn1 dn1 : Nat) (pn1 : Nat → Nat), Inv (if C = 0 then MA else MB) cn1 gn1 dn1 pn1 := by
  subst hMF hC he
  rw [if_pos rfl, if_pos rfl]
  refine ⟨(h.o56 V).m, ?_, fun _ => ?_, cn, gn, dn, pn, ((h.o56 V).h0 0).keep (fun q _ hq => hA q (by omega) (by omega)) (fun k _ => by rw [hA 38 (by decide) (by decide)])⟩
  · rw [hA 38 (by decide) (by decide), up2_at]; rfl
  · rw [hA 56 (by decide) (by decide), up2_ne _ _ _ (by decide), up2_at, hv]
/-- a call that is refused, the model's scratch rows apart -/
theorem ref_no2 {M : Nat → Nat → Int32} {cn gn dn : Nat} {pn : Nat → Nat} (h : Inv M cn gn dn pn) {C R : Int32} {MA MB : Nat → Nat → Int32} (hC : C ≠ 0) {hs : List String} {E : String} {MF M1 : Nat → Nat → Int32} {err : Option String} (he : err = some E) (hMF : MF = if err = none then M1 else M) (hl : lcd hs (some E) = C) (hB : ∀ q, q ≠ 54 → q ≠ 55 → MB q = MF q) :
    OkM MF cn gn dn pn ∧ (if C = 0 then MA else up2 MB 38 0 C) 38 0 = lcd hs err ∧ (lcd hs err = 0 → (if C = 0 then R else 0) = (if C = 0 then MA else up2 MB 38 0 C) 56 0) ∧ ∃ (cn1 gn1 dn1 : Nat) (pn1 : Nat → Nat), Inv (if C = 0 then MA else up2 MB 38 0 C) cn1 gn1 dn1 pn1 := by
  rw [if_neg (by rw [he]; exact fun z => nomatch z)] at hMF
  subst hMF
  rw [if_neg hC, he, hl]
  exact ⟨h.m, up2_at _ _ _ _, fun z => absurd z hC, cn, gn, dn, pn, (h.keep (fun q _ hq => hB q (by omega) (by omega)) (fun k _ => by rw [hB 38 (by decide) (by decide)])).h0 _⟩
theorem EO.of56 {M : Nat → Nat → Int32} (V W : Int32) : EO (up2 (up2 M 56 0 V) 38 0 W) M := EO.of (fun q _ h2 => by rw [up2_ne _ _ _ (by omega), up2_ne _ _ _ (by omega)])
theorem st_lifted {M : Nat → Nat → Int32} {cn gn dn : Nat} {pn : Nat → Nat} (h : Inv M cn gn dn pn) (a q : Int32) : St_lifted M cn gn dn pn a q := by
  obtain ⟨MF, hMF⟩ : ∃ MF, MF = oM_lifted M cn gn dn pn a q := ⟨_, rfl⟩
  unfold St_lifted
  rw [← hMF]
  have c8 := h.o.c8
  have h7 := h.m.pp
  cases hp : pcM cn pn a q with
  | false =>
    have he : erPc cn pn a q = some eX := by rw [erPc_cb c8 h7, hp]; rfl
    have hc : cd01 (pcM cn pn a q) = 1 := by rw [hp]; rfl
    unfold mM_lifted mV_lifted oK_lifted
    rw [hc]
    exact ref_no h (by decide) he hMF rfl
  | true =>
    have he : erPc cn pn a q = none := by rw [erPc_cb c8 h7, hp]; rfl
    have hc : cd01 (pcM cn pn a q) = 0 := by rw [hp]; rfl
    obtain ⟨j, k, hj, rfl, hk, rfl⟩ := pcM_true c8 h7 hp
    have hk7 := h7 j hj
    have tj : tn (nI j) = j := tn_nI (by omega)
    have tk : tn (nI k) = k := tn_nI (by omega)
    unfold oM_lifted at hMF
    rw [if_pos he, tj, tk] at hMF
    unfold mM_lifted mV_lifted oK_lifted
    rw [tj, tk]
    refine ask_ok h hMF hc he (fun q h1 h2 => (LF_inv (M := up2 MF 38 0 0) c8 h7 (okP_of h7 hj hk)).1 q h1 h2) ?_ _
    subst hMF
    have hI := (h.o56 (bcI (liO M pn cn j k))).h0 0
    rw [← L_cnt hI.ixy h7 c8 hj hk, liO_ext (EO.of56 _ _) pn hj c8]
