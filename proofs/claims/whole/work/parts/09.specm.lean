/-! What the model answers, in rows of ints. -/
section HN
variable {p : Program} {l : Launch} {e : Env} {R : Room} {s : State} {m : MethodId} {args : Array Value} {below : List Frame} {meth : Method} {c : Code} {H : Heap} {locs : List Loc} {cells slots : Nat} {Q : State → Prop} {cc : ByteArray} {pc : Nat} {ls : Array Slot} {rest : List Value}
theorem h_if_le_n {a : Nat} (hx : p.tables.exec = Jvm.exec) (hb : c.code = cc) (ha : a < 2 ^ 31) {off : Int} {tgt : Nat} (hdg : decode cc pc = .ok (.ifCond .le off, 3)) (ht : (pc : Int) + off = (tgt : Int)) (kt : a = 0 → W p l e R s m args below meth c H locs cells slots Q (F0 m tgt ls rest)) (kf : 0 < a → W p l e R s m args below meth c H locs cells slots Q (F0 m (pc + 3) ls rest)) : W p l e R s m args below meth c H locs cells slots Q (F0 m pc ls (.int (nI a) :: rest)) :=
  lv_if_le hx hb hdg ht (fun h => kt ((Nat.eq_zero_or_pos a).elim id (fun q => absurd h (nI_nle q ha)))) (fun h => kf ((Nat.eq_zero_or_pos a).elim (fun q => absurd (by subst q; decide) h) id))
theorem h_if_ne_n {a : Nat} (hx : p.tables.exec = Jvm.exec) (hb : c.code = cc) (ha : a < 2 ^ 31) {off : Int} {tgt : Nat} (hdg : decode cc pc = .ok (.ifCond .ne off, 3)) (ht : (pc : Int) + off = (tgt : Int)) (kt : 0 < a → W p l e R s m args below meth c H locs cells slots Q (F0 m tgt ls rest)) (kf : a = 0 → W p l e R s m args below meth c H locs cells slots Q (F0 m (pc + 3) ls rest)) : W p l e R s m args below meth c H locs cells slots Q (F0 m pc ls (.int (nI a) :: rest)) :=
  lv_if_ne hx hb hdg ht (fun h => kt ((Nat.eq_zero_or_pos a).elim (fun q => absurd (by subst q; rfl) h) id)) (fun h => kf ((Nat.eq_zero_or_pos a).elim id (fun q => absurd h (nI_ne0 q ha))))
theorem h_if_eq_n {a : Nat} (hx : p.tables.exec = Jvm.exec) (hb : c.code = cc) (ha : a < 2 ^ 31) {off : Int} {tgt : Nat} (hdg : decode cc pc = .ok (.ifCond .eq off, 3)) (ht : (pc : Int) + off = (tgt : Int)) (kt : a = 0 → W p l e R s m args below meth c H locs cells slots Q (F0 m tgt ls rest)) (kf : 0 < a → W p l e R s m args below meth c H locs cells slots Q (F0 m (pc + 3) ls rest)) : W p l e R s m args below meth c H locs cells slots Q (F0 m pc ls (.int (nI a) :: rest)) :=
  lv_if_eq hx hb hdg ht (fun h => kt ((Nat.eq_zero_or_pos a).elim id (fun q => absurd h (nI_ne0 q ha)))) (fun h => kf ((Nat.eq_zero_or_pos a).elim (fun q => absurd (by subst q; rfl) h) id))
theorem h_idiv {a b v : Int32} (hx : p.tables.exec = Jvm.exec) (hb : c.code = cc) (hdg : decode cc pc = .ok (.idiv, 1)) (hne : ¬ b = 0) (hv : a / b = v) (k : W p l e R s m args below meth c H locs cells slots Q (F0 m (pc + 1) ls (.int v :: rest))) : W p l e R s m args below meth c H locs cells slots Q (F0 m pc ls (.int b :: .int a :: rest)) := lv_idiv hx hb hdg hne (by rw [hv]; exact k)
theorem h_irem {a b v : Int32} (hx : p.tables.exec = Jvm.exec) (hb : c.code = cc) (hdg : decode cc pc = .ok (.irem, 1)) (hne : ¬ b = 0) (hv : a - a / b * b = v) (k : W p l e R s m args below meth c H locs cells slots Q (F0 m (pc + 1) ls (.int v :: rest))) : W p l e R s m args below meth c H locs cells slots Q (F0 m pc ls (.int b :: .int a :: rest)) := lv_irem hx hb hdg hne (by rw [hv]; exact k)
end HN
theorem h_div {a d : Nat} (ha : a < 2 ^ 31) (h0 : 0 < d) (hd : d < 2 ^ 31) : ¬ nI d = 0 ∧ nI a / nI d = nI (a / d) ∧ nI a - nI a / nI d * nI d = nI (a % d) := ⟨nI_ne0 h0 hd, pk_div ha h0 hd, pk_rem ha h0 hd⟩
def inI (v lo hi : Int32) : Bool := !decide (v < lo) && !decide (hi < v)
def plM (px py : Int32) : Bool := inI px 0 99 && inI py 0 99
def cbM (cn : Nat) (a : Int32) : Bool := inI a 0 (nI cn - 1)
def c2M (cn : Nat) (a b : Int32) : Bool := cbM cn a && cbM cn b
def ptM (cn : Nat) (pn : Nat → Nat) (a q : Int32) : Bool := cbM cn a && inI q 0 (nI (pn (tn a)))
def pcM (cn : Nat) (pn : Nat → Nat) (a q : Int32) : Bool := cbM cn a && inI q 0 (nI (pn (tn a) + 1 - 2))
def moM (mo : Int32) : Bool := inI mo 0 11
theorem inI_true {v lo hi : Int32} : inI v lo hi = true ↔ ¬ v < lo ∧ ¬ hi < v := by simp [inI]
theorem inI_n {v : Int32} {h : Nat} (hh : h < 2 ^ 31) (H : inI v 0 (nI h) = true) : ∃ j : Nat, j < h + 1 ∧ v = nI j := by
  obtain ⟨h1, h2⟩ := inI_true.mp H
  obtain ⟨j, hj, rfl⟩ := nI_of h1
  exact ⟨j, by rcases Nat.lt_or_ge h j with q | q; exact absurd (nI_lt q hj) h2; omega, rfl⟩
theorem cbM_true {cn : Nat} (hn : cn ≤ 8) {a : Int32} (h : cbM cn a = true) : ∃ j : Nat, j < cn ∧ a = nI j := by
  unfold cbM at h
  rcases Nat.eq_zero_or_pos cn with q | q
  · subst q
    obtain ⟨h1, h2⟩ := inI_true.mp h
    exfalso
    obtain ⟨j, hj, rfl⟩ := nI_of h1
    apply h2
    show nI 0 - 1 < nI j
    exact Int32.lt_of_lt_of_le (b := 0) (by decide) (nI_pos' hj)
  · obtain ⟨k, rfl⟩ : ∃ k, cn = k + 1 := ⟨cn - 1, by omega⟩
    rw [show nI (k + 1) - 1 = nI k from nI_pred k] at h
    exact inI_n (by omega) h
theorem c2M_true {cn : Nat} (hn : cn ≤ 8) {a b : Int32} (h : c2M cn a b = true) : ∃ j k : Nat, j < cn ∧ a = nI j ∧ k < cn ∧ b = nI k := by
  simp only [c2M, Bool.and_eq_true] at h
  obtain ⟨j, hj, e⟩ := cbM_true hn h.1
  obtain ⟨k, hk, e2⟩ := cbM_true hn h.2
  exact ⟨j, k, hj, e, hk, e2⟩
theorem ptM_true {cn : Nat} {pn : Nat → Nat} (hn : cn ≤ 8) (hp : ∀ i, i < cn → 1 ≤ pn i ∧ pn i ≤ 7) {a q : Int32} (h : ptM cn pn a q = true) : ∃ j k : Nat, j < cn ∧ a = nI j ∧ k < pn j + 1 ∧ q = nI k := by
  simp only [ptM, Bool.and_eq_true] at h
  obtain ⟨j, hj, rfl⟩ := cbM_true hn h.1
  rw [tn_nI (by omega)] at h
  obtain ⟨k, hk, e2⟩ := inI_n (by have := hp j hj; omega) h.2
  exact ⟨j, k, hj, rfl, hk, e2⟩
theorem pcM_true {cn : Nat} {pn : Nat → Nat} (hn : cn ≤ 8) (hp : ∀ i, i < cn → 1 ≤ pn i ∧ pn i ≤ 7) {a q : Int32} (h : pcM cn pn a q = true) : ∃ j k : Nat, j < cn ∧ a = nI j ∧ k < pn j ∧ q = nI k := by
  simp only [pcM, Bool.and_eq_true] at h
  obtain ⟨j, hj, rfl⟩ := cbM_true hn h.1
  rw [tn_nI (by omega)] at h
  have h7 := hp j hj
  obtain ⟨k, hk, e2⟩ := inI_n (by omega) h.2
  exact ⟨j, k, hj, rfl, by omega, e2⟩
/-- the numbers that the model's memory keeps -/
def OkM (M : Nat → Nat → Int32) (cn gn dn : Nat) (pn : Nat → Nat) : Prop := M 38 4 = nI cn ∧ cn ≤ 8 ∧ M 38 9 = nI gn ∧ gn ≤ 5 ∧ M 38 1 = nI dn ∧ dn ≤ 8 ∧ ∀ i, i < cn → M 41 i = nI (pn i + 1) ∧ 1 ≤ pn i ∧ pn i ≤ 7
theorem OkM.c {M : Nat → Nat → Int32} {cn gn dn : Nat} {pn : Nat → Nat} (h : OkM M cn gn dn pn) : M 38 4 = nI cn := h.1
theorem OkM.c8 {M : Nat → Nat → Int32} {cn gn dn : Nat} {pn : Nat → Nat} (h : OkM M cn gn dn pn) : cn ≤ 8 := h.2.1
theorem OkM.g {M : Nat → Nat → Int32} {cn gn dn : Nat} {pn : Nat → Nat} (h : OkM M cn gn dn pn) : M 38 9 = nI gn := h.2.2.1
theorem OkM.g5 {M : Nat → Nat → Int32} {cn gn dn : Nat} {pn : Nat → Nat} (h : OkM M cn gn dn pn) : gn ≤ 5 := h.2.2.2.1
theorem OkM.d {M : Nat → Nat → Int32} {cn gn dn : Nat} {pn : Nat → Nat} (h : OkM M cn gn dn pn) : M 38 1 = nI dn := h.2.2.2.2.1
theorem OkM.d8 {M : Nat → Nat → Int32} {cn gn dn : Nat} {pn : Nat → Nat} (h : OkM M cn gn dn pn) : dn ≤ 8 := h.2.2.2.2.2.1
theorem OkM.p {M : Nat → Nat → Int32} {cn gn dn : Nat} {pn : Nat → Nat} (h : OkM M cn gn dn pn) {i : Nat} (hi : i < cn) : M 41 i = nI (pn i + 1) := (h.2.2.2.2.2.2 i hi).1
theorem OkM.pp {M : Nat → Nat → Int32} {cn gn dn : Nat} {pn : Nat → Nat} (h : OkM M cn gn dn pn) : ∀ i, i < cn → 1 ≤ pn i ∧ pn i ≤ 7 := fun i hi => (h.2.2.2.2.2.2 i hi).2
theorem OkM.p7 {M : Nat → Nat → Int32} {cn gn dn : Nat} {pn : Nat → Nat} (h : OkM M cn gn dn pn) {i : Nat} (hi : i < cn) : 1 ≤ pn i ∧ pn i ≤ 7 := h.pp i hi
theorem OkM.keep {M M' : Nat → Nat → Int32} {cn gn dn : Nat} {pn : Nat → Nat} (h : OkM M cn gn dn pn) (h0 : ∀ k, k ≠ 0 → k ≠ 19 → M' 38 k = M 38 k) (h1 : M' 41 = M 41) : OkM M' cn gn dn pn := by
  obtain ⟨a1, a2, a3, a4, a5, a6, a7⟩ := h
  exact ⟨by rw [h0 4 (by decide) (by decide)]; exact a1, a2, by rw [h0 9 (by decide) (by decide)]; exact a3, a4, by rw [h0 1 (by decide) (by decide)]; exact a5, a6, fun i hi => by rw [h1]; exact a7 i hi⟩
theorem OkM.up {M : Nat → Nat → Int32} {cn gn dn : Nat} {pn : Nat → Nat} (h : OkM M cn gn dn pn) {id k : Nat} {v : Int32} (h2 : 41 < id) : OkM (up2 M id k v) cn gn dn pn :=
  h.keep (fun j _ _ => by rw [up2_ne M k v (by omega)]) (up2_ne M k v (by omega))
theorem OkM.h0 {M : Nat → Nat → Int32} {cn gn dn : Nat} {pn : Nat → Nat} (h : OkM M cn gn dn pn) {v : Int32} : OkM (up2 M 38 0 v) cn gn dn pn :=
  h.keep (fun j hj _ => by rw [up2_self]; simp [upd, hj]) (up2_ne M 0 v (by omega))
theorem OkM.h19 {M : Nat → Nat → Int32} {cn gn dn : Nat} {pn : Nat → Nat} (h : OkM M cn gn dn pn) {v : Int32} : OkM (up2 M 38 19 v) cn gn dn pn :=
  h.keep (fun j _ hj => by rw [up2_self]; simp [upd, hj]) (up2_ne M 19 v (by omega))
def sgn (v : Int32) : Int32 := if v ≤ 0 then (if 0 ≤ v then 0 else -1) else 1
def sgM (x y tx ty ax ay : Int32) : Int32 := sgn ((tx - x) * (ay - y) - (ty - y) * (ax - x))
def bxM (x tx ax : Int32) : Bool := if tx < x then inI ax tx x else inI ax x tx
def btM (x y tx ty ax ay : Int32) : Bool := bxM x tx ax && bxM y ty ay
def on1M (a b c d x y tx ty : Int32) : Bool := (decide (sgM a b c d x y = 0) && btM a b c d x y) || (decide (sgM a b c d tx ty = 0) && btM a b c d tx ty)
def meM (a b c d x y tx ty : Int32) : Bool := on1M a b c d x y tx ty || (on1M x y tx ty a b c d || (!decide (0 ≤ sgM a b c d x y * sgM a b c d tx ty) && !decide (0 ≤ sgM x y tx ty a b * sgM x y tx ty c d)))
def cdM (X Y : Nat → Int32) (p q : Nat) : Bool := meM (X p) (Y p) (X (p + 1)) (Y (p + 1)) (X q) (Y q) (X (q + 1)) (Y (q + 1))
def absN (v : Int32) : Int32 := if 0 ≤ v then v else -v
def stM (X Y : Nat → Int32) (p q : Nat) : Bool := !decide (absN ((X (p + 1) - X p) * (Y (q + 1) - Y q) - (Y (p + 1) - Y p) * (X (q + 1) - X q)) < absN ((X (p + 1) - X p) * (X (q + 1) - X q) + (Y (p + 1) - Y p) * (Y (q + 1) - Y q)))
def fM (bb : Bool) (X Y : Nat → Int32) (i j k t : Nat) : Bool := cdM X Y (8 * i + k) (8 * j + t) && (!bb || stM X Y (8 * i + k) (8 * j + t))
def crM (bb : Bool) (M : Nat → Nat → Int32) (pn : Nat → Nat) (i j : Nat) : Nat := if i = j then 0 else cnt2 (fM bb (M 42) (M 43) i j) (pn j) (pn i)
def wnM (M : Nat → Nat → Int32) (pn : Nat → Nat) (i j : Nat) : Bool := !decide (crM true M pn i j = 0) && decide (crM true M pn i j = crM false M pn i j)
def brM (M : Nat → Nat → Int32) (pn : Nat → Nat) (i j : Nat) : Bool := decide (M 44 (8 * i + j) = 0) && !decide (crM false M pn i j = 0)
def bnM (M : Nat → Nat → Int32) (pn : Nat → Nat) (cn : Nat) : Nat := cntB (fun k => decide (k / cn < k % cn) && brM M pn (k / cn) (k % cn)) (cn * cn)
theorem crM_le {bb : Bool} {M : Nat → Nat → Int32} {pn : Nat → Nat} {i j : Nat} (h1 : pn i ≤ 7) (h2 : pn j ≤ 7) : crM bb M pn i j ≤ 49 := by
  unfold crM
  split
  · omega
  · refine Nat.le_trans (cnt2_le _ _ _) (Nat.le_trans (Nat.mul_le_mul h1 h2) (by decide))
def sdM (M : Nat → Nat → Int32) (dn : Nat) (px py : Int32) : Bool := !decide (dn = 0) && (decide (M 39 (dn - 1) = px) && decide (M 40 (dn - 1) = py))
def cdDr (M : Nat → Nat → Int32) (dn : Nat) (px py : Int32) : Int32 := if plM px py = false then 1 else if dn = 8 ∨ sdM M dn px py = true then 2 else 0
def drM (M : Nat → Nat → Int32) (dn : Nat) (px py : Int32) : Nat → Nat → Int32 := up2 (up2 (up2 (up2 M 38 0 0) 39 dn px) 40 dn py) 38 1 (nI (dn + 1))
def cdLa (cn dn : Nat) : Int32 := if dn < 2 ∨ cn = 8 then 1 else 0
def cpM (M : Nat → Nat → Int32) (cn : Nat) : Nat → Nat → Nat → Int32
  | 0 => M
  | k + 1 => up2 (up2 (cpM M cn k) 42 (8 * cn + k) (cpM M cn k 39 k)) 43 (8 * cn + k) (up2 (cpM M cn k) 42 (8 * cn + k) (cpM M cn k 39 k) 40 k)
def laM (M : Nat → Nat → Int32) (cn dn : Nat) : Nat → Nat → Int32 := up2 (up2 (up2 (cpM (up2 M 38 0 0) cn dn) 41 cn (nI dn)) 38 1 0) 38 4 (nI (cn + 1))
theorem cpM_ok {M : Nat → Nat → Int32} {cn gn dn b : Nat} {pn : Nat → Nat} (h : OkM M cn gn dn pn) : ∀ k, OkM (cpM M b k) cn gn dn pn
  | 0 => h
  | k + 1 => ((cpM_ok h k).up (by omega)).up (by omega)
def ahM (M : Nat → Nat → Int32) (j k : Nat) (px py : Int32) : Bool := !decide (k = 0) && (decide (M 42 (8 * j + k - 1) = px) && decide (M 43 (8 * j + k - 1) = py))
def bhM (M : Nat → Nat → Int32) (pn : Nat → Nat) (j k : Nat) (px py : Int32) : Bool := !decide (pn j ≤ k) && (decide (M 42 (8 * j + k + 1) = px) && decide (M 43 (8 * j + k + 1) = py))
def cdMv (M : Nat → Nat → Int32) (cn : Nat) (pn : Nat → Nat) (a q px py : Int32) : Int32 := if ptM cn pn a q = false then 1 else if plM px py = false then 2 else if ahM M (tn a) (tn q) px py = true ∨ bhM M pn (tn a) (tn q) px py = true then 3 else 0
def agM (M : Nat → Nat → Int32) (i j : Nat) (v : Int32) : Nat → Nat → Int32 := up2 (up2 M 44 (8 * i + j) v) 44 (8 * j + i) v
theorem agM_ok {M : Nat → Nat → Int32} {cn gn dn i j : Nat} {v : Int32} {pn : Nat → Nat} (h : OkM M cn gn dn pn) : OkM (agM M i j v) cn gn dn pn := (h.up (by omega)).up (by omega)
def mw0 (M : Nat → Nat → Int32) (j k : Nat) (px py : Int32) : Nat → Nat → Int32 := up2 (up2 (up2 M 38 0 0) 42 (8 * j + k) px) 43 (8 * j + k) py
def fallM (M : Nat → Nat → Int32) (pn : Nat → Nat) (j t : Nat) : Bool := !decide (M 44 (8 * j + t) = 0) && !wnM M pn j t
def mwM (M : Nat → Nat → Int32) (pn : Nat → Nat) (j : Nat) : Nat → Nat → Nat → Int32
  | 0 => M
  | t + 1 => if fallM (mwM M pn j t) pn j t = true then agM (mwM M pn j t) j t 0 else mwM M pn j t
def mwC (M : Nat → Nat → Int32) (pn : Nat → Nat) (j : Nat) : Nat → Nat
  | 0 => 0
  | t + 1 => if fallM (mwM M pn j t) pn j t = true then mwC M pn j t + 1 else mwC M pn j t
theorem mwM_ok {M : Nat → Nat → Int32} {cn gn dn j : Nat} {pn pm : Nat → Nat} (h : OkM M cn gn dn pn) : ∀ k, OkM (mwM M pm j k) cn gn dn pn
  | 0 => h
  | k + 1 => by
    simp only [mwM]
    split
    · exact agM_ok (mwM_ok h k)
    · exact mwM_ok h k
def cd01 (b : Bool) : Int32 := if b = true then 0 else 1
def cdAg (M : Nat → Nat → Int32) (cn : Nat) (pn : Nat → Nat) (a b : Int32) : Int32 := if c2M cn a b = false then 1 else if M 44 (8 * tn a + tn b) = 0 ∧ wnM M pn (tn a) (tn b) = true then 0 else 2
def arM (le lo ri hh : Int32) : Bool := plM le lo && (inI ri le 99 && inI hh lo 99)
def cdGr (gn : Nat) (le lo ri hh fr to : Int32) : Int32 := if arM le lo ri hh = false ∨ moM fr = false ∨ moM to = false then 1 else if gn = 5 then 2 else 0
def gwM (M : Nat → Nat → Int32) (gn : Nat) (le lo ri hh fr to : Int32) : Nat → Nat → Int32 :=
  up2 (up2 (up2 (up2 (up2 (up2 (up2 (up2 M 38 0 0) 45 gn le) 46 gn lo) 47 gn ri) 48 gn hh) 49 gn fr) 50 gn to) 38 9 (nI (gn + 1))
def prM (y sm : Int32) : Int32 := if y = 0 then 0 else sm / y
def cdTe (M : Nat → Nat → Int32) (gn : Nat) (g am : Int32) : Int32 := if cbM gn g = false then 1 else if inI am 0 1000000 = false then 2 else if M 52 (tn g) = 100 then 3 else 0
def twM (M : Nat → Nat → Int32) (g : Nat) (am : Int32) : Nat → Nat → Int32 := up2 (up2 (up2 M 38 0 0) 51 g (up2 M 38 0 0 51 g + am)) 52 g (up2 (up2 M 38 0 0) 51 g (up2 M 38 0 0 51 g + am) 52 g + 1)
def clM (f t mo : Int32) : Bool := if t < f then (decide (f ≤ mo) || !decide (t < mo)) else inI mo f t
def toM (M : Nat → Nat → Int32) (p g : Nat) : Bool :=
  (inI (M 42 p) (M 45 g) (M 47 g) && inI (M 43 p) (M 46 g) (M 48 g)) || ((meM (M 42 p) (M 43 p) (M 42 (p + 1)) (M 43 (p + 1)) (M 45 g) (M 46 g) (M 47 g) (M 46 g) || meM (M 42 p) (M 43 p) (M 42 (p + 1)) (M 43 (p + 1)) (M 45 g) (M 48 g) (M 47 g) (M 48 g)) || (meM (M 42 p) (M 43 p) (M 42 (p + 1)) (M 43 (p + 1)) (M 45 g) (M 46 g) (M 45 g) (M 48 g) || meM (M 42 p) (M 43 p) (M 42 (p + 1)) (M 43 (p + 1)) (M 47 g) (M 46 g) (M 47 g) (M 48 g)))
theorem crX_le {f : Nat → Nat → Bool} {i j a b k : Nat} (h1 : 1 ≤ a ∧ a ≤ 7) (h2 : 1 ≤ b ∧ b ≤ 7) (hk : k ≤ a) : (if i = j then 0 else cnt2 f b k) ≤ 56 := by
  split
  · omega
  · exact Nat.le_trans (cnt2_le _ _ _) (Nat.le_trans (Nat.mul_le_mul (Nat.le_trans hk h1.2) h2.2) (by decide))
theorem crX_eq {bb : Bool} {M : Nat → Nat → Int32} {pn : Nat → Nat} {i j k : Nat} (h1 : pn i ≤ k) (h2 : k ≤ pn i) : (if i = j then 0 else cnt2 (fM bb (M 42) (M 43) i j) (pn j) k) = crM bb M pn i j := by
  have h := Nat.le_antisymm h2 h1
  subst h; rfl
theorem crX_i {bb : Bool} {M : Nat → Nat → Int32} {pn : Nat → Nat} {i j k : Nat} (h1 : i = j) : (if i = j then 0 else cnt2 (fM bb (M 42) (M 43) i j) (pn j) k) = crM bb M pn i j := by
  rw [if_pos h1, crM, if_pos h1]
theorem OkM.up' {M : Nat → Nat → Int32} {cn gn dn : Nat} {pn : Nat → Nat} (h : OkM M cn gn dn pn) {id k : Nat} {v : Int32} (h2 : id ≠ 38) (h3 : id ≠ 41) : OkM (up2 M id k v) cn gn dn pn :=
  h.keep (fun j _ _ => by rw [up2_ne M k v (Ne.symm h2)]) (up2_ne M k v (Ne.symm h3))
theorem OkM.upc {M : Nat → Nat → Int32} {cn gn dn k : Nat} {v : Int32} {pn : Nat → Nat} (h : OkM M cn gn dn pn) (hk : cn ≤ k) : OkM (up2 M 41 k v) cn gn dn pn := by
  obtain ⟨a1, a2, a3, a4, a5, a6, a7⟩ := h
  refine ⟨by rw [up2_ne M k v (by omega)]; exact a1, a2, by rw [up2_ne M k v (by omega)]; exact a3, a4, by rw [up2_ne M k v (by omega)]; exact a5, a6, fun i hi => ?_⟩
  rw [up2_self]; simp only [upd, if_neg (show ¬ i = k by omega)]
  exact a7 i hi
theorem cdMv_pt {M : Nat → Nat → Int32} {cn : Nat} {pn : Nat → Nat} {a q px py : Int32} (h : cdMv M cn pn a q px py = 0) : ptM cn pn a q = true := by
  unfold cdMv at h
  cases hp : ptM cn pn a q with
  | true => rfl
  | false => rw [if_pos hp] at h; exact absurd h (by decide)
