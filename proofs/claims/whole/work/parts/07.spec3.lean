/-! What the office's public methods answer and keep. -/
theorem OkO.up8 {M : Nat → Nat → Int32} {cn gn dn : Nat} {pn : Nat → Nat} (h : OkO M cn gn dn pn) {v : Int32} : OkO (up2 M 0 8 v) cn gn dn pn := by
  obtain ⟨a1, a2, a3, a4, a5, a6, a7⟩ := h
  refine ⟨a1, a2, a3, a4, by rw [up2_ne M 8 v (by omega)]; exact a5, a6, fun i hi => ?_⟩
  rw [up2_ne M 8 v (by omega)]
  exact a7 i hi
theorem OkO.upXY {M : Nat → Nat → Int32} {cn gn dn : Nat} {pn : Nat → Nat} (h : OkO M cn gn dn pn) {j k : Nat} {u v : Int32} (hj : j < 9) : OkO (up2 (up2 M (11 + 3 * j + 1) k u) (11 + 3 * j + 2) k v) cn gn dn pn := by
  refine h.keep ?_ (fun i hi => ?_)
  · rw [up2_ne _ _ _ (by omega), up2_ne _ _ _ (by omega)]
  · rw [up2_ne _ _ _ (by omega), up2_ne _ _ _ (by omega)]
theorem recM_ok {M : Nat → Nat → Int32} {cn gn dn : Nat} {pn pm : Nat → Nat} {a b : Nat} (h : OkO M cn gn dn pn) : OkO (recM M pm a b) cn gn dn pn := (h.up (by omega)).up (by omega)
def erDr (M : Nat → Nat → Int32) (dn : Nat) (px py : Int32) : Option String := orE (erPl px py) (if 8 ≤ dn ∨ atO (M (11 + 3 * 8) 2) (rX M 8) (rY M 8) (nI dn - 1) px py = true then some eI else none)
def dfM (M : Nat → Nat → Int32) (dn : Nat) (px py : Int32) : Nat → Nat → Int32 := up2 (up2 (up2 M (11 + 3 * 8 + 1) dn px) (11 + 3 * 8 + 2) dn py) (11 + 3 * 8) 2 (nI (dn + 1))
def erLay (cn dn : Nat) : Option String := if dn < 2 ∨ 8 ≤ cn then some eI else none
def takeM (M : Nat → Nat → Int32) (i j : Nat) : Nat → Nat → Int32 := up2 (cpR (cpR M (11 + 3 * j + 1) (11 + 3 * i + 1)) (11 + 3 * j + 2) (11 + 3 * i + 2)) (11 + 3 * i) 2 (cpR (cpR M (11 + 3 * j + 1) (11 + 3 * i + 1)) (11 + 3 * j + 2) (11 + 3 * i + 2) (11 + 3 * j) 2)
def layM (M : Nat → Nat → Int32) (cn : Nat) : Nat → Nat → Int32 := up2 (up2 (takeM M cn 8) (11 + 3 * 8) 2 0) 0 2 (nI (cn + 1))
def pnL (pn : Nat → Nat) (cn dn : Nat) : Nat → Nat := fun i => if i = cn then dn - 1 else pn i
def layR (M : Nat → Nat → Int32) (pn : Nat → Nat) (cn : Nat) : Nat → Nat → Nat → Int32
  | 0 => M
  | k + 1 => recM (layR M pn cn k) pn cn k
theorem takeM_ne {M : Nat → Nat → Int32} {i j q : Nat} (h0 : q ≠ 11 + 3 * i) (h1 : q ≠ 11 + 3 * i + 1) (h2 : q ≠ 11 + 3 * i + 2) : takeM M i j q = M q := by
  unfold takeM
  rw [up2_ne _ _ _ h0]
  simp only [cpR, if_neg h1, if_neg h2]
theorem takeM_n {M : Nat → Nat → Int32} {i j : Nat} : takeM M i j (11 + 3 * i) 2 = M (11 + 3 * j) 2 := by
  unfold takeM
  rw [up2_self]
  simp only [upd, if_true, cpR]
  rw [if_neg (by omega), if_neg (by omega)]
theorem layM_ok {M : Nat → Nat → Int32} {cn gn dn : Nat} {pn : Nat → Nat} (h : OkO M cn gn dn pn) (h2 : 2 ≤ dn) (h8 : cn < 8) : OkO (layM M cn) (cn + 1) gn 0 (pnL pn cn dn) := by
  obtain ⟨a1, a2, a3, a4, a5, a6, a7⟩ := h
  have e0 : ∀ k, k ≠ 2 → layM M cn 0 k = M 0 k := by
    intro k hk
    unfold layM
    rw [up2_self]
    simp only [upd, if_neg hk]
    rw [up2_ne _ _ _ (by omega), takeM_ne (by omega) (by omega) (by omega)]
  have e1 : ∀ q, q ≠ 0 → q ≠ 11 + 3 * 8 → layM M cn q = takeM M cn 8 q := by
    intro q h0 h1
    unfold layM
    rw [up2_ne _ _ _ h0, up2_ne _ _ _ h1]
  refine ⟨?_, by omega, by rw [e0 7 (by decide)]; exact a3, a4, ?_, by omega, fun i hi => ?_⟩
  · unfold layM; rw [up2_self]; rfl
  · unfold layM; rw [up2_ne _ _ _ (by omega), up2_self]; rfl
  · by_cases hic : i = cn
    · subst hic
      rw [e1 _ (by omega) (by omega), takeM_n, a5]
      simp only [pnL, if_true]
      exact ⟨by rw [show dn - 1 + 1 = dn by omega], by omega, by omega⟩
    · rw [e1 _ (by omega) (by omega), takeM_ne (by omega) (by omega) (by omega)]
      simp only [pnL, if_neg hic]
      exact a7 i (by omega)
theorem layR_ok {M : Nat → Nat → Int32} {cn gn dn : Nat} {pn pm : Nat → Nat} {b : Nat} (h : OkO M cn gn dn pn) : ∀ k, OkO (layR M pm b k) cn gn dn pn
  | 0 => h
  | k + 1 => recM_ok (layR_ok h k)
def erMv (M : Nat → Nat → Int32) (cn : Nat) (pn : Nat → Nat) (a q px py : Int32) : Option String :=
  orE (erPt cn pn a q) (orE (erPl px py) (if atO (M (11 + 3 * tn a) 2) (rX M (tn a)) (rY M (tn a)) (q - 1) px py = true ∨ atO (M (11 + 3 * tn a) 2) (rX M (tn a)) (rY M (tn a)) (q + 1) px py = true then some eI else none))
def mvM (M : Nat → Nat → Int32) (pn : Nat → Nat) (j : Nat) : Nat → Nat → Nat → Int32
  | 0 => M
  | t + 1 => if t = j then mvM M pn j t else if drO (recM (mvM M pn j t) pn j t) j t = true then up2 (recM (mvM M pn j t) pn j t) 4 (pr j t) 0 else recM (mvM M pn j t) pn j t
def mvC (M : Nat → Nat → Int32) (pn : Nat → Nat) (j : Nat) : Nat → Int32
  | 0 => 0
  | t + 1 => if t = j then mvC M pn j t else mvC M pn j t + (if drO (recM (mvM M pn j t) pn j t) j t = true then 1 else 0)
theorem OkO.ite {M M' : Nat → Nat → Int32} {cn gn dn : Nat} {pn : Nat → Nat} {p : Prop} [Decidable p] (h : OkO M cn gn dn pn) (h' : OkO M' cn gn dn pn) : OkO (if p then M else M') cn gn dn pn := by split <;> assumption
theorem mvM_ok {M : Nat → Nat → Int32} {cn gn dn : Nat} {pn pm : Nat → Nat} {j : Nat} (h : OkO M cn gn dn pn) : ∀ k, OkO (mvM M pm j k) cn gn dn pn
  | 0 => h
  | k + 1 => OkO.ite (mvM_ok h k) (OkO.ite ((recM_ok (mvM_ok h k)).up (by omega)) (recM_ok (mvM_ok h k)))
def mv0 (M : Nat → Nat → Int32) (a q : Nat) (px py : Int32) : Nat → Nat → Int32 := up2 (up2 M (11 + 3 * a + 1) q px) (11 + 3 * a + 2) q py
def erAg (M : Nat → Nat → Int32) (cn : Nat) (a b : Int32) : Option String := orE (erCC cn a b) (if weO M (tn a) (tn b) = false ∨ ¬ M 4 (pr (tn a) (tn b)) = 0 then some eI else none)
def erGr (gn : Nat) (le lo ri hh fr to : Int32) : Option String := orE (erPl le lo) (orE (erPl ri hh) (orE (if ri < le ∨ ¬ lo ≤ hh then some eA else none) (orE (erMo fr) (orE (erMo to) (if 5 ≤ gn then some eI else none)))))
def grM (M : Nat → Nat → Int32) (gn : Nat) (le lo ri hh fr to : Int32) : Nat → Nat → Int32 :=
  up2 (up2 (up2 (up2 (up2 (up2 (up2 M (6 + gn) 0 le) (6 + gn) 1 lo) (6 + gn) 2 ri) (6 + gn) 3 hh) (6 + gn) 4 fr) (6 + gn) 5 to) 0 7 (nI (gn + 1))
def erTe (M : Nat → Nat → Int32) (gn : Nat) (g am : Int32) : Option String := orE (erC gn g) (orE (if am < 0 ∨ ¬ am ≤ 1000000 then some eA else none) (if ¬ M (6 + tn g) 6 < 100 then some eI else none))
def teM (M : Nat → Nat → Int32) (g : Nat) (am : Int32) : Nat → Nat → Int32 := up2 (up2 M (6 + g) 6 (M (6 + g) 6 + 1)) (6 + g) 7 (up2 M (6 + g) 6 (M (6 + g) 6 + 1) (6 + g) 7 + am)
def liO (M : Nat → Nat → Int32) (pn : Nat → Nat) (cn : Nat) (a q : Nat) : Int64 := lwA M pn a q (cn - (a + 1))
def erRe (M : Nat → Nat → Int32) (cn : Nat) (pn : Nat → Nat) (a q mo : Int32) : Option String := orE (erPc cn pn a q) (orE (erMo mo) (if 500 ≤ M 0 8 ∨ psO M pn (liO M pn cn (tn a) (tn q)) cn = false then some eI else none))
