/-! What the office's own methods answer. -/
def tn (a : Int32) : Nat := a.toNatClampNeg
theorem tn_nI {j : Nat} (h : j < 2 ^ 31) : tn (nI j) = j := nI_clamp h
def orE (a b : Option String) : Option String := match a with
  | none => b
  | some e => some e
theorem orE_none (b : Option String) : orE none b = b := rfl
theorem orE_some (e : String) (b : Option String) : orE (some e) b = some e := rfl
theorem orE_eq_none {a b : Option String} : orE a b = none ↔ a = none ∧ b = none := by cases a <;> simp [orE]
def erPl (px py : Int32) : Option String := if px < 0 ∨ 99 < px ∨ py < 0 ∨ ¬ py ≤ 99 then some eA else none
def erMo (mo : Int32) : Option String := if mo < 0 ∨ ¬ mo ≤ 11 then some eA else none
def erC (cn : Nat) (a : Int32) : Option String := if a < 0 ∨ ¬ a < nI cn then some eX else none
def erCC (cn : Nat) (a b : Int32) : Option String := orE (erC cn a) (erC cn b)
def erPt (cn : Nat) (pn : Nat → Nat) (a q : Int32) : Option String := orE (erC cn a) (if q < 0 ∨ ¬ q < nI (pn (tn a) + 1) then some eX else none)
def erPc (cn : Nat) (pn : Nat → Nat) (a q : Int32) : Option String := orE (erC cn a) (if q < 0 ∨ ¬ q < nI (pn (tn a)) then some eX else none)
theorem lt_nI {a : Int32} {n : Nat} (hn : n < 2 ^ 31) (h1 : ¬ a < 0) (h2 : a < nI n) : ∃ j : Nat, j < n ∧ a = nI j := by
  obtain ⟨j, hj, rfl⟩ := nI_of h1
  exact ⟨j, (nI_ltI hj hn).mp h2, rfl⟩
theorem erC_none {cn : Nat} (hn : cn ≤ 8) {a : Int32} (h : erC cn a = none) : ∃ j : Nat, j < cn ∧ a = nI j := by
  unfold erC at h
  by_cases h1 : a < 0
  · rw [if_pos (Or.inl h1)] at h; cases h
  · by_cases h2 : a < nI cn
    · exact lt_nI (by omega) h1 h2
    · rw [if_pos (Or.inr h2)] at h; cases h
theorem erCC_none {cn : Nat} (hn : cn ≤ 8) {a b : Int32} (h : erCC cn a b = none) : ∃ j k : Nat, j < cn ∧ a = nI j ∧ k < cn ∧ b = nI k := by
  obtain ⟨h1, h2⟩ := orE_eq_none.mp h
  obtain ⟨j, hj, e⟩ := erC_none hn h1
  obtain ⟨k, hk, e2⟩ := erC_none hn h2
  exact ⟨j, k, hj, e, hk, e2⟩
theorem erPt_none {cn : Nat} {pn : Nat → Nat} (hn : cn ≤ 8) {a q : Int32} (hp : ∀ i, i < cn → pn i ≤ 7) (h : erPt cn pn a q = none) : ∃ j k : Nat, j < cn ∧ a = nI j ∧ k < pn j + 1 ∧ q = nI k := by
  obtain ⟨h1, h2⟩ := orE_eq_none.mp h
  obtain ⟨j, hj, e⟩ := erC_none hn h1
  subst e
  rw [tn_nI (by omega)] at h2
  have h7 := hp j hj
  by_cases g1 : q < 0
  · rw [if_pos (Or.inl g1)] at h2; cases h2
  · by_cases g2 : q < nI (pn j + 1)
    · obtain ⟨k, hk, e2⟩ := lt_nI (by omega) g1 g2
      exact ⟨j, k, hj, rfl, hk, e2⟩
    · rw [if_pos (Or.inr g2)] at h2; cases h2
theorem erPc_none {cn : Nat} {pn : Nat → Nat} (hn : cn ≤ 8) {a q : Int32} (hp : ∀ i, i < cn → pn i ≤ 7) (h : erPc cn pn a q = none) : ∃ j k : Nat, j < cn ∧ a = nI j ∧ k < pn j ∧ q = nI k := by
  obtain ⟨h1, h2⟩ := orE_eq_none.mp h
  obtain ⟨j, hj, e⟩ := erC_none hn h1
  subst e
  rw [tn_nI (by omega)] at h2
  have h7 := hp j hj
  by_cases g1 : q < 0
  · rw [if_pos (Or.inl g1)] at h2; cases h2
  · by_cases g2 : q < nI (pn j)
    · obtain ⟨k, hk, e2⟩ := lt_nI (by omega) g1 g2
      exact ⟨j, k, hj, rfl, hk, e2⟩
    · rw [if_pos (Or.inr g2)] at h2; cases h2
/-- the numbers that the office's memory keeps: cables, grounds, the draft's points, each cable's pieces -/
def OkO (M : Nat → Nat → Int32) (cn gn dn : Nat) (pn : Nat → Nat) : Prop := M 0 2 = nI cn ∧ cn ≤ 8 ∧ M 0 7 = nI gn ∧ gn ≤ 5 ∧ M (11 + 3 * 8) 2 = nI dn ∧ dn ≤ 8 ∧ ∀ i, i < cn → M (11 + 3 * i) 2 = nI (pn i + 1) ∧ 1 ≤ pn i ∧ pn i ≤ 7
theorem OkO.c {M : Nat → Nat → Int32} {cn gn dn : Nat} {pn : Nat → Nat} (h : OkO M cn gn dn pn) : M 0 2 = nI cn := h.1
theorem OkO.c8 {M : Nat → Nat → Int32} {cn gn dn : Nat} {pn : Nat → Nat} (h : OkO M cn gn dn pn) : cn ≤ 8 := h.2.1
theorem OkO.g {M : Nat → Nat → Int32} {cn gn dn : Nat} {pn : Nat → Nat} (h : OkO M cn gn dn pn) : M 0 7 = nI gn := h.2.2.1
theorem OkO.g5 {M : Nat → Nat → Int32} {cn gn dn : Nat} {pn : Nat → Nat} (h : OkO M cn gn dn pn) : gn ≤ 5 := h.2.2.2.1
theorem OkO.d {M : Nat → Nat → Int32} {cn gn dn : Nat} {pn : Nat → Nat} (h : OkO M cn gn dn pn) : M (11 + 3 * 8) 2 = nI dn := h.2.2.2.2.1
theorem OkO.d8 {M : Nat → Nat → Int32} {cn gn dn : Nat} {pn : Nat → Nat} (h : OkO M cn gn dn pn) : dn ≤ 8 := h.2.2.2.2.2.1
theorem OkO.p {M : Nat → Nat → Int32} {cn gn dn : Nat} {pn : Nat → Nat} (h : OkO M cn gn dn pn) {i : Nat} (hi : i < cn) : M (11 + 3 * i) 2 = nI (pn i + 1) := (h.2.2.2.2.2.2 i hi).1
theorem OkO.p7 {M : Nat → Nat → Int32} {cn gn dn : Nat} {pn : Nat → Nat} (h : OkO M cn gn dn pn) {i : Nat} (hi : i < cn) : pn i ≤ 7 := (h.2.2.2.2.2.2 i hi).2.2
theorem OkO.keep {M M' : Nat → Nat → Int32} {cn gn dn : Nat} {pn : Nat → Nat} (h : OkO M cn gn dn pn) (h0 : M' 0 = M 0) (h1 : ∀ i, i < 9 → M' (11 + 3 * i) = M (11 + 3 * i)) : OkO M' cn gn dn pn := by
  obtain ⟨a1, a2, a3, a4, a5, a6, a7⟩ := h
  refine ⟨by rw [h0]; exact a1, a2, by rw [h0]; exact a3, a4, by rw [h1 8 (by omega)]; exact a5, a6, fun i hi => ?_⟩
  rw [h1 i (by omega)]
  exact a7 i hi
theorem OkO.up {M : Nat → Nat → Int32} {cn gn dn : Nat} {pn : Nat → Nat} (h : OkO M cn gn dn pn) {id k : Nat} {v : Int32} (h2 : 2 ≤ id ∧ id < 11) : OkO (up2 M id k v) cn gn dn pn :=
  h.keep (up2_ne M k v (by omega)) (fun i _ => up2_ne M k v (by omega))
def cntB (f : Nat → Bool) : Nat → Nat
  | 0 => 0
  | n + 1 => cntB f n + (if f n = true then 1 else 0)
def cnt2 (f : Nat → Nat → Bool) (u : Nat) : Nat → Nat
  | 0 => 0
  | n + 1 => cnt2 f u n + cntB (f n) u
def anyB (f : Nat → Bool) : Nat → Bool
  | 0 => false
  | n + 1 => anyB f n || f n
theorem anyB_of {f : Nat → Bool} {n k : Nat} (hk : k < n) (h : f k = true) : anyB f n = true := by
  induction n with
  | zero => omega
  | succ n ih =>
    rcases Nat.lt_or_ge k n with q | q
    · simp [anyB, ih q]
    · have : k = n := by omega
      subst this
      simp [anyB, h]
theorem cntB_le (f : Nat → Bool) : ∀ n, cntB f n ≤ n
  | 0 => Nat.le_refl _
  | n + 1 => by
    have h := cntB_le f n
    simp only [cntB]
    split <;> omega
theorem cnt2_le (f : Nat → Nat → Bool) (u : Nat) : ∀ n, cnt2 f u n ≤ n * u
  | 0 => Nat.zero_le _
  | n + 1 => by
    have h := cnt2_le f u n
    have h2 := cntB_le (f n) u
    simp only [cnt2, Nat.succ_mul]
    omega
def fX (b : Bool) (X Y X2 Y2 : Nat → Int32) (k m : Nat) : Bool := crO X Y k X2 Y2 m && (!b || stO X Y k X2 Y2 m)
def pr (a b : Nat) : Nat := 8 * min a b + max a b
theorem pr_lt {a b : Nat} (ha : a < 8) (hb : b < 8) : pr a b < 64 := by unfold pr; omega
theorem minI_n {a b : Nat} (ha : a < 2 ^ 31) (hb : b < 2 ^ 31) : minI (nI a) (nI b) = nI (min a b) := by
  unfold minI
  by_cases h : b < a
  · rw [if_pos ((nI_ltI hb ha).mpr h), Nat.min_eq_right (Nat.le_of_lt h)]
  · rw [if_neg (fun q => h ((nI_ltI hb ha).mp q)), Nat.min_eq_left (by omega)]
theorem maxI_n {a b : Nat} (ha : a < 2 ^ 31) (hb : b < 2 ^ 31) : maxI (nI a) (nI b) = nI (max a b) := by
  unfold maxI
  by_cases h : a < b
  · rw [if_pos ((nI_ltI ha hb).mpr h), Nat.max_eq_right (Nat.le_of_lt h)]
  · rw [if_neg (fun q => h ((nI_ltI ha hb).mp q)), Nat.max_eq_left (by omega)]
theorem pr_nI {a b : Nat} (ha : a < 8) (hb : b < 8) : 8 * minI (nI a) (nI b) + maxI (nI a) (nI b) = nI (pr a b) := by
  rw [minI_n (by omega) (by omega), maxI_n (by omega) (by omega), pr, ← nI_add, ← pk_mul]
  rfl
def rX (M : Nat → Nat → Int32) (i : Nat) : Nat → Int32 := M (11 + 3 * i + 1)
def rY (M : Nat → Nat → Int32) (i : Nat) : Nat → Int32 := M (11 + 3 * i + 2)
def cnX (bb : Bool) (M : Nat → Nat → Int32) (pn : Nat → Nat) (a b : Nat) : Nat := cnt2 (fX bb (rX M a) (rY M a) (rX M b) (rY M b)) (pn b) (pn a)
def recM (M : Nat → Nat → Int32) (pn : Nat → Nat) (a b : Nat) : Nat → Nat → Int32 :=
  up2 (up2 M 2 (pr a b) (nI (cnX false M pn a b))) 3 (pr a b) (nI (cnX true (up2 M 2 (pr a b) (nI (cnX false M pn a b))) pn a b))
def weO (M : Nat → Nat → Int32) (a b : Nat) : Bool := !decide (M 2 (pr a b) ≤ 0) && decide (M 3 (pr a b) = M 2 (pr a b))
def drO (M : Nat → Nat → Int32) (a b : Nat) : Bool := !decide (M 4 (pr a b) = 0) && !weO M a b
def baO (M : Nat → Nat → Int32) (a b : Nat) : Bool := !decide (M 2 (pr a b) ≤ 0) && decide (M 4 (pr a b) = 0)
def bpO (M : Nat → Nat → Int32) (cn : Nat) : Nat → Nat
  | 0 => 0
  | b + 1 => bpO M cn b + cntB (fun j => baO M b (b + 1 + j)) (cn - (b + 1))
theorem bpO_le (M : Nat → Nat → Int32) (cn : Nat) : ∀ b, bpO M cn b ≤ b * cn
  | 0 => Nat.zero_le _
  | b + 1 => by
    have h := bpO_le M cn b
    have h2 := cntB_le (fun j => baO M b (b + 1 + j)) (cn - (b + 1))
    simp only [bpO, Nat.succ_mul]
    omega
def bitL (y : Nat) : Int64 := (1 : Int64) <<< ((nI y).toInt64 &&& 63)
def inL (L : Int64) (y : Nat) : Bool := !decide (lg_cmp (L &&& bitL y) 0 = 0)
def loO2 (M : Nat → Nat → Int32) (pn : Nat → Nat) (L : Int64) (b a q : Nat) : Bool := anyB (fun k => inL L (8 * b + k) && crO (rX M b) (rY M b) k (rX M a) (rY M a) q) (pn b)
def lyO (M : Nat → Nat → Int32) (pn : Nat → Nat) (L : Int64) (b a : Nat) : Nat → Int64
  | 0 => 0
  | q + 1 => if loO2 M pn L b a q = true then lyO M pn L b a q ||| bitL (8 * a + q) else lyO M pn L b a q
def lwB (M : Nat → Nat → Int32) (pn : Nat → Nat) (cb a : Nat) (L0 : Int64) : Nat → Int64
  | 0 => L0
  | j + 1 => lwB M pn cb a L0 j ||| lyO M pn (lwB M pn cb a L0 j) (cb + j) a (pn a)
def lwA (M : Nat → Nat → Int32) (pn : Nat → Nat) (cb q : Nat) : Nat → Int64
  | 0 => bitL (8 * cb + q)
  | t + 1 => lwB M pn cb (cb + 1 + t) (lwA M pn cb q t) (t + 1)
def badO (M : Nat → Nat → Int32) (pn : Nat → Nat) (L : Int64) (a b : Nat) : Bool := decide (M 4 (pr b a) = 0) && !decide (lg_cmp (lyO M pn L b a (pn a)) 0 = 0)
def psO (M : Nat → Nat → Int32) (pn : Nat → Nat) (L : Int64) (cn : Nat) : Bool := !anyB (fun a => anyB (badO M pn L a) a) cn
def mbO (M : Nat → Nat → Int32) (pn : Nat → Nat) (L : Int64) (g c : Nat) : Bool := anyB (fun q => inL L (8 * c + q) && mtO (rX M c) (rY M c) q (M (6 + g) 0) (M (6 + g) 1) (M (6 + g) 2) (M (6 + g) 3)) (pn c)
def owO (M : Nat → Nat → Int32) (pn : Nat → Nat) (cn : Nat) (L : Int64) (mo : Int32) (g : Nat) : Bool := shutO (M (6 + g) 4) (M (6 + g) 5) mo && anyB (mbO M pn L g) cn
def bcI (L : Int64) : Int32 :=
  let a := L - ((L.toUInt64 >>> ((1 : Int32).toInt64.toUInt64 &&& Int64.toUInt64 63)).toInt64 &&& 6148914691236517205)
  let b := (a &&& 3689348814741910323) + ((a.toUInt64 >>> ((2 : Int32).toInt64.toUInt64 &&& Int64.toUInt64 63)).toInt64 &&& 3689348814741910323)
  let d := (b + (b.toUInt64 >>> ((4 : Int32).toInt64.toUInt64 &&& Int64.toUInt64 63)).toInt64) &&& 1085102592571150095
  let f := d + (d.toUInt64 >>> ((8 : Int32).toInt64.toUInt64 &&& Int64.toUInt64 63)).toInt64
  let g := f + (f.toUInt64 >>> ((16 : Int32).toInt64.toUInt64 &&& Int64.toUInt64 63)).toInt64
  let h := g + (g.toUInt64 >>> ((32 : Int32).toInt64.toUInt64 &&& Int64.toUInt64 63)).toInt64
  h.toInt32 &&& 127
def coO (M : Nat → Nat → Int32) (pn : Nat → Nat) (cn : Nat) (L : Int64) (mo : Int32) : Nat → Int32
  | 0 => 10 * bcI L
  | g + 1 => if owO M pn cn L mo g = true then coO M pn cn L mo g + prO (M (6 + g) 6) (M (6 + g) 7) else coO M pn cn L mo g
def pgM (M : Nat → Nat → Int32) (pn : Nat → Nat) (cn : Nat) (L : Int64) (mo : Int32) : Nat → Nat → Nat → Int32
  | 0 => M
  | g + 1 => if owO (pgM M pn cn L mo g) pn cn L mo g = true then up2 (pgM M pn cn L mo g) (6 + g) 8 (pgM M pn cn L mo g (6 + g) 8 + prO (pgM M pn cn L mo g (6 + g) 6) (pgM M pn cn L mo g (6 + g) 7)) else pgM M pn cn L mo g
theorem pgM_ok {M : Nat → Nat → Int32} {cn gn dn : Nat} {pn : Nat → Nat} (h : OkO M cn gn dn pn) {L : Int64} {mo : Int32} : ∀ g, g ≤ gn → OkO (pgM M pn cn L mo g) cn gn dn pn
  | 0, _ => h
  | g + 1, hg => by
    have ih := pgM_ok h (L := L) (mo := mo) g (by omega)
    have h5 := h.g5
    simp only [pgM]
    split
    · exact ih.up (by omega)
    · exact ih
theorem g_metF {l : Launch} {y : MethodName} {ws ws' : List Cond} {rm : Room} {x : Cx} {M : Nat → Nat → Int32} {as : List Value} {Qc : Array Value → State → Outcome → State → Prop} {mc ms : Nat} {free : Addr → Prop} {cc : ByteArray} {maxL : Nat} {ret : Option FieldType} (hy : plainFor y = true) (hw : ws = Cond.code y cc maxL ret :: ws') (hlen : (lg_sl as).length ≤ maxL)
    (body : ∀ (p : Program) (e : Env) (s : State) (m : MethodId) (below : List Frame) (meth : Method) (c : Code), p.tables.exec = Jvm.exec → c.code = cc → meth.sig.returnType = ret → c.maxLocals = maxL → (∀ w ∈ ws, w.before as.toArray s = true) → s.vm.findClass y.cls = some m.cls → meth.locks = false → GS x s → GZ x s s.heap → va_P (xD x) vwCl (wAll x M) s.heap → va_S (gF x) s.heap s.heap [] → ∀ ls : Array Slot, lv_has ls maxL (lv_args 0 as) →
      W p l e rm s m as.toArray below meth c s.heap [] 0 0 (MQ below Qc as.toArray s mc ms free) (F0 m 0 ls [])) : Met l y ws rm (gP x M as) Qc mc ms free := by
  refine va_MetF (cc := cc) (maxL := maxL) (ret := ret) hy hw ?_
  intro p e s m args below meth c s₁ B hml hv
  obtain ⟨rfl, hS, hP, hZ⟩ := hv
  rw [lg_entry_eq]
  exact body p e s m below meth c B.exec B.bytes B.returns hml (atoms_spec (ws := ws) B.pre) (findClass_of_methodNamed B.named) B.notSynchronized hS hZ hP va_S.rf _ (lv_entry as hlen)
theorem cntB_t {f : Nat → Bool} {t : Nat} (h : f t = true) : cntB f (t + 1) = cntB f t + 1 := by simp [cntB, h]
theorem cntB_f {f : Nat → Bool} {t : Nat} (h : f t = false) : cntB f (t + 1) = cntB f t := by simp [cntB, h]
theorem anyB_f {f : Nat → Bool} {t : Nat} (h : anyB f t = false) (h2 : f t = false) : anyB f (t + 1) = false := by simp [anyB, h, h2]
