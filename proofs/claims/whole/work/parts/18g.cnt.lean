/-! Counts: of crossings, either way; of bare pairs. -/
theorem cnt2_ext {f g : Nat → Nat → Bool} {u : Nat} : ∀ n, (∀ k t, k < n → t < u → f k t = g k t) → cnt2 f u n = cnt2 g u n
  | 0, _ => rfl
  | n + 1, h => by
    simp only [cnt2]
    rw [cnt2_ext n (fun k t hk ht => h k t (by omega) ht), cntB_ext u (fun t ht => h n t (by omega) ht)]
theorem cnt2_succ (g : Nat → Nat → Bool) (n : Nat) : ∀ u, cnt2 g (n + 1) u = cnt2 g n u + cntB (fun t => g t n) u
  | 0 => rfl
  | u + 1 => by
    simp only [cnt2]
    rw [cnt2_succ g n u]
    simp only [cntB]
    omega
theorem cnt2_0 (g : Nat → Nat → Bool) : ∀ u, cnt2 g 0 u = 0
  | 0 => rfl
  | u + 1 => by simp only [cnt2, cntB]; rw [cnt2_0 g u]
theorem cnt2_swap (f : Nat → Nat → Bool) (u : Nat) : ∀ n, cnt2 f u n = cnt2 (fun t k => f k t) n u
  | 0 => (cnt2_0 _ u).symm
  | n + 1 => by rw [cnt2_succ, cnt2, cnt2_swap f u n]
theorem IXY.c42 {M : Nat → Nat → Int32} {cn : Nat} {pn : Nat → Nat} (h : IXY M cn pn) {i k : Nat} (hi : i < cn) (hk : k ≤ pn i) : cof (M 42 (8 * i + k)) := (h i hi k hk).2.1
theorem IXY.c43 {M : Nat → Nat → Int32} {cn : Nat} {pn : Nat → Nat} (h : IXY M cn pn) {i k : Nat} (hi : i < cn) (hk : k ≤ pn i) : cof (M 43 (8 * i + k)) := (h i hi k hk).2.2
theorem IXY.cd {M : Nat → Nat → Int32} {cn : Nat} {pn : Nat → Nat} (h : IXY M cn pn) {i j k t : Nat} (hi : i < cn) (hj : j < cn) (hk : k < pn i) (ht : t < pn j) : crO (rX M i) (rY M i) k (rX M j) (rY M j) t = cdM (M 42) (M 43) (8 * i + k) (8 * j + t) :=
  cr_cd (h i hi k (by omega)).1.1 (h i hi (k + 1) (by omega)).1.1 (h i hi k (by omega)).1.2 (h i hi (k + 1) (by omega)).1.2 (h j hj t (by omega)).1.1 (h j hj (t + 1) (by omega)).1.1 (h j hj t (by omega)).1.2 (h j hj (t + 1) (by omega)).1.2
    (h.c42 hi (by omega)) (h.c42 hi (k := k + 1) (by omega)) (h.c43 hi (by omega)) (h.c43 hi (k := k + 1) (by omega)) (h.c42 hj (by omega)) (h.c42 hj (k := t + 1) (by omega)) (h.c43 hj (by omega)) (h.c43 hj (k := t + 1) (by omega))
theorem IXY.st {M : Nat → Nat → Int32} {cn : Nat} {pn : Nat → Nat} (h : IXY M cn pn) {i j k t : Nat} (hi : i < cn) (hj : j < cn) (hk : k < pn i) (ht : t < pn j) : stO (rX M i) (rY M i) k (rX M j) (rY M j) t = stM (M 42) (M 43) (8 * i + k) (8 * j + t) :=
  sto_stm (h i hi k (by omega)).1.1 (h i hi (k + 1) (by omega)).1.1 (h i hi k (by omega)).1.2 (h i hi (k + 1) (by omega)).1.2 (h j hj t (by omega)).1.1 (h j hj (t + 1) (by omega)).1.1 (h j hj t (by omega)).1.2 (h j hj (t + 1) (by omega)).1.2
theorem IXY.cdc {M : Nat → Nat → Int32} {cn : Nat} {pn : Nat → Nat} (h : IXY M cn pn) {i j k t : Nat} (hi : i < cn) (hj : j < cn) (hk : k < pn i) (ht : t < pn j) : cdM (M 42) (M 43) (8 * i + k) (8 * j + t) = cdM (M 42) (M 43) (8 * j + t) (8 * i + k) :=
  cd_comm (h.c42 hi (by omega)) (h.c42 hi (k := k + 1) (by omega)) (h.c43 hi (by omega)) (h.c43 hi (k := k + 1) (by omega)) (h.c42 hj (by omega)) (h.c42 hj (k := t + 1) (by omega)) (h.c43 hj (by omega)) (h.c43 hj (k := t + 1) (by omega))
theorem IXY.stc {M : Nat → Nat → Int32} {cn : Nat} {pn : Nat → Nat} (h : IXY M cn pn) {i j k t : Nat} (hi : i < cn) (hj : j < cn) (hk : k < pn i) (ht : t < pn j) : stM (M 42) (M 43) (8 * i + k) (8 * j + t) = stM (M 42) (M 43) (8 * j + t) (8 * i + k) :=
  st_comm (h.c42 hi (by omega)) (h.c42 hi (k := k + 1) (by omega)) (h.c43 hi (by omega)) (h.c43 hi (k := k + 1) (by omega)) (h.c42 hj (by omega)) (h.c42 hj (k := t + 1) (by omega)) (h.c43 hj (by omega)) (h.c43 hj (k := t + 1) (by omega))
theorem IXY.cn {M : Nat → Nat → Int32} {cn : Nat} {pn : Nat → Nat} (h : IXY M cn pn) (bb : Bool) {i j : Nat} (hi : i < cn) (hj : j < cn) (hij : i ≠ j) : cnX bb M pn i j = crM bb M pn i j := by
  unfold cnX crM
  rw [if_neg hij]
  refine cnt2_ext _ (fun k t hk ht => ?_)
  unfold fX fM
  rw [h.cd hi hj hk ht, h.st hi hj hk ht]
theorem IXY.comm {M : Nat → Nat → Int32} {cn : Nat} {pn : Nat → Nat} (h : IXY M cn pn) (bb : Bool) {i j : Nat} (hi : i < cn) (hj : j < cn) : crM bb M pn i j = crM bb M pn j i := by
  unfold crM
  by_cases hij : i = j
  · rw [if_pos hij, if_pos hij.symm]
  · rw [if_neg hij, if_neg (fun z => hij z.symm), cnt2_swap]
    refine cnt2_ext _ (fun t k ht hk => ?_)
    unfold fM
    rw [h.cdc hi hj hk ht, h.stc hi hj hk ht]
theorem Inv.ixy {M : Nat → Nat → Int32} {cn gn dn : Nat} {pn : Nat → Nat} (h : Inv M cn gn dn pn) : IXY M cn pn := h.2.2.1
theorem st_crossingsAnew {M : Nat → Nat → Int32} {cn gn dn : Nat} {pn : Nat → Nat} (h : Inv M cn gn dn pn) (a b : Int32) : St_crossingsAnew M cn gn dn pn a b := by
  obtain ⟨MF, hMF⟩ : ∃ MF, MF = oM_crossingsAnew M cn gn dn pn a b := ⟨_, rfl⟩
  have hq := mf_row (h := (hMF : MF = if _ then _ else _))
  unfold St_crossingsAnew
  rw [← hMF]
  obtain ⟨A1, A2, A3, A4⟩ := ask1 (R := nI (crM false MF pn (tn a) (tn b))) h hMF (erCC_cb h.o.c8 a b) (fun hb => by
    have c8 := h.o.c8
    obtain ⟨j, k, hj, rfl, hk, rfl⟩ := c2M_true h.o.c8 hb
    rw [tn_nI (by omega), tn_nI (by omega), crM_ext (hq 42 (by decide)) (hq 43 (by decide))]
    by_cases hjk : j = k
    · subst hjk
      rw [if_pos rfl, crM_self]; rfl
    · rw [if_neg hjk, h.ixy.cn false hj hk hjk])
  exact ⟨A1, A2, A3, cn, gn, dn, pn, A4⟩
theorem cntB_add (f : Nat → Bool) (a : Nat) : ∀ b, cntB f (a + b) = cntB f a + cntB (fun t => f (a + t)) b
  | 0 => rfl
  | b + 1 => by
    show cntB f (a + b) + (if f (a + b) = true then 1 else 0) = _
    rw [cntB_add f a b]
    simp only [cntB]
    omega
theorem nle0 {c : Nat} (h : c < 2 ^ 31) : (nI c ≤ 0) ↔ c = 0 := by
  constructor
  · intro z
    rcases Nat.eq_zero_or_pos c with q | q
    · exact q
    · exact absurd z (nI_nle q h)
  · intro z; subst z; decide
/-- bare pairs: what the office keeps, and what the model counts -/
theorem bare_eq {M : Nat → Nat → Int32} {cn : Nat} {pn : Nat → Nat} (c8 : cn ≤ 8) (hA : ∀ i j, i < 8 → j < 8 → M 4 (pr i j) = M 44 (8 * i + j)) (hC : ∀ i j, i < cn → j < cn → i ≠ j → M 2 (pr i j) = nI (crM false M pn i j)) (h49 : ∀ i j, i < cn → j < cn → crM false M pn i j ≤ 49) : bpO M cn cn = bnM M pn cn := by
  have hb : ∀ b t, b < cn → t < cn → b < t → baO M b t = brM M pn b t := by
    intro b t hb ht hbt
    unfold baO brM
    rw [hC b t hb ht (by omega), hA b t (by omega) (by omega)]
    have h9 := h49 b t hb ht
    simp only [nle0 (show crM false M pn b t < 2 ^ 31 by omega)]
    exact Bool.and_comm _ _
  have key : ∀ b, b ≤ cn → cntB (fun k => decide (k / cn < k % cn) && brM M pn (k / cn) (k % cn)) (cn * b) = bpO M cn b := by
    intro b
    induction b with
    | zero => intro _; rfl
    | succ b ih =>
      intro hbc
      rw [Nat.mul_succ, cntB_add, ih (by omega)]
      simp only [bpO]
      congr 1
      have hcn : 0 < cn := by omega
      rw [cntB_ext (f := fun t => decide (b < t) && brM M pn b t) cn (fun t ht => by
        have e1 : (cn * b + t) / cn = b := by rw [Nat.mul_add_div hcn, Nat.div_eq_of_lt ht]; rfl
        have e2 : (cn * b + t) % cn = t := by rw [Nat.mul_add_mod, Nat.mod_eq_of_lt ht]
        simp only [e1, e2])]
      have e3 : cn = (b + 1) + (cn - (b + 1)) := by omega
      rw [show cntB (fun t => decide (b < t) && brM M pn b t) cn = cntB (fun t => decide (b < t) && brM M pn b t) ((b + 1) + (cn - (b + 1))) from by rw [← e3], cntB_add, cntB_zero (b + 1) (fun j hj => by simp only [Bool.and_eq_false_iff, decide_eq_false_iff_not]; left; omega), Nat.zero_add]
      refine cntB_ext _ (fun t ht => ?_)
      rw [hb b (b + 1 + t) (by omega) (by omega) (by omega), decide_eq_true (show b < b + 1 + t by omega), Bool.true_and]
  unfold bnM
  exact (key cn (Nat.le_refl _)).symm
theorem Inv.c49 {M : Nat → Nat → Int32} {cn gn dn : Nat} {pn : Nat → Nat} (h : Inv M cn gn dn pn) (bb : Bool) (M' : Nat → Nat → Int32) {i j : Nat} (hi : i < cn) (hj : j < cn) : crM bb M' pn i j ≤ 49 := crM_le (h.m.pp i hi).2 (h.m.pp j hj).2
theorem bnM_ext {M M' : Nat → Nat → Int32} {pn : Nat → Nat} {cn : Nat} (h1 : M' 42 = M 42) (h2 : M' 43 = M 43) (h3 : M' 44 = M 44) : bnM M' pn cn = bnM M pn cn := by
  have e : ∀ i j, brM M' pn i j = brM M pn i j := fun i j => by unfold brM; rw [h3, crM_ext h1 h2]
  unfold bnM
  simp only [e]
theorem st_bare {M : Nat → Nat → Int32} {cn gn dn : Nat} {pn : Nat → Nat} (h : Inv M cn gn dn pn) : St_bare M cn gn dn pn := by
  refine ⟨?_, h.h0 0⟩
  show nI (bpO M cn cn) = nI (bnM M pn cn)
  rw [bare_eq h.o.c8 h.ag (fun i j hi hj _ => h.c2 hi hj) (fun i j hi hj => h.c49 _ _ hi hj)]
