/-! What the office's routes and grounds answer, in rows of ints. -/
def wd (X : Nat → Int32) (k : Nat) : Int32 := X (k + 1) - X k
def minI (a b : Int32) : Int32 := if b < a then b else a
def maxI (a b : Int32) : Int32 := if a < b then b else a
def absI (a : Int32) : Int32 := if 0 ≤ a then a else 0 - a
def sideO (X Y : Nat → Int32) (k : Nat) (px py : Int32) : Int32 := wd X k * (py - Y k) - wd Y k * (px - X k)
def loO (X : Nat → Int32) (k : Nat) : Int32 := minI (X k) (X (k + 1))
def hiO (X : Nat → Int32) (k : Nat) : Int32 := maxI (X k) (X (k + 1))
def boxO (X Y : Nat → Int32) (k : Nat) (l lo r h : Int32) : Bool := !decide (r < loO X k) && (!decide (hiO X k < l) && (!decide (h < loO Y k) && !decide (hiO Y k < lo)))
def divO (X Y : Nat → Int32) (p : Nat) (X2 Y2 : Nat → Int32) (k : Nat) : Bool := !decide (0 < minI (sideO X Y p (X2 k) (Y2 k)) (sideO X Y p (X2 (k + 1)) (Y2 (k + 1)))) && !decide (maxI (sideO X Y p (X2 k) (Y2 k)) (sideO X Y p (X2 (k + 1)) (Y2 (k + 1))) < 0)
def crO (X Y : Nat → Int32) (p : Nat) (X2 Y2 : Nat → Int32) (k : Nat) : Bool := boxO X Y p (loO X2 k) (loO Y2 k) (hiO X2 k) (hiO Y2 k) && (divO X Y p X2 Y2 k && divO X2 Y2 k X Y p)
def stO (X Y : Nat → Int32) (p : Nat) (X2 Y2 : Nat → Int32) (k : Nat) : Bool := !decide (absI (wd X p * wd Y2 k - wd Y p * wd X2 k) < absI (wd X p * wd X2 k + wd Y p * wd Y2 k))
def lmO (X Y : Nat → Int32) (p : Nat) (l lo r h : Int32) : Bool := !decide (0 < minI (minI (sideO X Y p l lo) (sideO X Y p r lo)) (minI (sideO X Y p l h) (sideO X Y p r h))) && !decide (maxI (maxI (sideO X Y p l lo) (sideO X Y p r lo)) (maxI (sideO X Y p l h) (sideO X Y p r h)) < 0)
def mtO (X Y : Nat → Int32) (p : Nat) (l lo r h : Int32) : Bool := boxO X Y p l lo r h && lmO X Y p l lo r h
def atO (n : Int32) (X Y : Nat → Int32) (q px py : Int32) : Bool := if q < 0 then false else if n ≤ q then false else decide (X q.toNatClampNeg = px) && decide (Y q.toNatClampNeg = py)
def shutO (f t m : Int32) : Bool := if t < f then (!decide (m < f) || !decide (t < m)) else (!decide (m < f) && !decide (t < m))
def prO (n sm : Int32) : Int32 := if n ≤ 0 then 0 else sm / n
def cpR (M : Nat → Nat → Int32) (a b : Nat) : Nat → Nat → Int32 := fun i => if i = b then (fun k => if k < 8 then M a k else M b k) else M i
section GW
variable {p : Program} {l : Launch} {e : Env} {R : Room} {s : State} {m : MethodId} {args : Array Value} {below : List Frame} {meth : Method} {c : Code} {H : Heap} {locs : List Loc} {cells slots : Nat} {Q : State → Prop} {cc : ByteArray} {pc : Nat} {ls : Array Slot} {rest st0 : List Value} {x : Cx} {M : Nat → Nat → Int32}
theorem g_zk (hS : GS x s) (hZ : GZ x s s.heap) (hV : va_S (gF x) s.heap H locs) : GZ x s H := hZ.kept hS.2.2.2.1 hV
theorem g_get (hx : p.tables.exec = Jvm.exec) (hb : c.code = cc) {own C : String} {T : u_T} {N ci index : Nat} {Ts : List Cond} (hts : ∀ w ∈ Ts, w.before args s = true) (hin : ∀ w ∈ u_ws C T N, w ∈ Ts) (hown : s.vm.findClass own = some m.cls) (hS : GS x s) (hP : va_P (xD x) vwCl (wAll x M) H) {id : Nat} {fs : List Value} (hid : id < 57) (he : sh x (M id) id = .inr (ci, fs)) (hc : vwCl[ci]? = some (C, T, N)) (k : Nat) (hk : k < N) (hlink : (Cond.fieldLink own index (T k).1 (T k).2.1 (T k).2.2.1).before args s = true) {v : Value} (hv : fs[k]? = some v) (hdg : decode cc pc = .ok (.getfield index, 3))
    (kk : W p l e R s m args below meth c H locs cells slots Q (F0 m (pc + 3) ls (v :: rest))) : W p l e R s m args below meth c H locs cells slots Q (F0 m pc ls (.ref (xa x id) :: rest)) :=
  va_get hx hb hts hin hown hS.1 hP id (wAll_get hid he) hc k hk hlink (fun _ h => h) hv hdg kk
theorem g_getN (hx : p.tables.exec = Jvm.exec) (hb : c.code = cc) {own C host : String} {T : u_T} {N ci index : Nat} {Ts : List Cond} (hts : ∀ w ∈ Ts, w.before args s = true) (hin : ∀ w ∈ u_ws C T N, w ∈ Ts) (hown : s.vm.findClass own = some m.cls) (hS : GS x s) (hP : va_P (xD x) vwCl (wAll x M) H) {id : Nat} {fs : List Value} (hid : id < 57) (he : sh x (M id) id = .inr (ci, fs)) (hc : vwCl[ci]? = some (C, T, N)) (k : Nat) (hk : k < N) (hlink : Cond.fieldLinkNest own index (T k).1 (T k).2.1 (T k).2.2.1 host ∈ nestW) {v : Value} (hv : fs[k]? = some v) (hdg : decode cc pc = .ok (.getfield index, 3))
    (kk : W p l e R s m args below meth c H locs cells slots Q (F0 m (pc + 3) ls (v :: rest))) : W p l e R s m args below meth c H locs cells slots Q (F0 m pc ls (.ref (xa x id) :: rest)) :=
  va_getN hx hb hts hin hown hS.1 hP id (wAll_get hid he) hc k hk (va_Nw.use rfl (hS.2.2.2.2.1 _ hlink)) (fun _ h => h) hv hdg kk
theorem g_put (hx : p.tables.exec = Jvm.exec) (hb : c.code = cc) {own C : String} {T : u_T} {N ci index : Nat} {Ts : List Cond} (hts : ∀ w ∈ Ts, w.before args s = true) (hin : ∀ w ∈ u_ws C T N, w ∈ Ts) (ty0 : Nat → FieldType) (hty : ∀ k, k < N → parseFieldDescriptor (T k).2.2.1 = some (ty0 k)) (hnm : ∀ a, a < N → ∀ b, b < N → a ≠ b → (T a).2.1 ≠ (T b).2.1) (hown : s.vm.findClass own = some m.cls) (hS : GS x s) (hP : va_P (xD x) vwCl (wAll x M) H) (hV : va_S (gF x) s.heap H locs) {id : Nat} {fs : List Value} (hid : id < 57) (he : sh x (M id) id = .inr (ci, fs)) (hc : vwCl[ci]? = some (C, T, N)) (k : Nat) (hk : k < N) (hlink : (Cond.fieldLink own index (T k).1 (T k).2.1 (T k).2.2.1).before args s = true) (hfin : (T k).2.2.2 = false) (hd : parseFieldDescriptor (T k).2.2.1 = some .int) (hl : k < fs.length) {v : Int32} (he2 : sh x (upd (M id) k v) id = .inr (ci, fs.set k (.int v)))
    (hdg : decode cc pc = .ok (.putfield index, 3)) (kk : ∀ (H : Heap) (locs : List Loc), va_P (xD x) vwCl (wAll x (up2 M id k v)) H → va_S (gF x) s.heap H locs → W p l e R s m args below meth c H locs cells slots Q (F0 m (pc + 3) ls rest)) : W p l e R s m args below meth c H locs cells slots Q (F0 m pc ls (.int v :: .ref (xa x id) :: rest)) :=
  va_put hx hb hts hin ty0 hty hnm hown hS.1 hP (hS.D M) hV id (wAll_get hid he) hc k hk hlink (fun _ h => h) hfin hd rfl rfl hl hdg (fun H1 locs1 hP1 _ hV1 => kk H1 locs1 (by rw [wAll_up2 hid he2] at hP1; exact hP1) hV1)
theorem g_putN (hx : p.tables.exec = Jvm.exec) (hb : c.code = cc) {own C host : String} {T : u_T} {N ci index : Nat} {Ts : List Cond} (hts : ∀ w ∈ Ts, w.before args s = true) (hin : ∀ w ∈ u_ws C T N, w ∈ Ts) (ty0 : Nat → FieldType) (hty : ∀ k, k < N → parseFieldDescriptor (T k).2.2.1 = some (ty0 k)) (hnm : ∀ a, a < N → ∀ b, b < N → a ≠ b → (T a).2.1 ≠ (T b).2.1) (hown : s.vm.findClass own = some m.cls) (hS : GS x s) (hP : va_P (xD x) vwCl (wAll x M) H) (hV : va_S (gF x) s.heap H locs) {id : Nat} {fs : List Value} (hid : id < 57) (he : sh x (M id) id = .inr (ci, fs)) (hc : vwCl[ci]? = some (C, T, N)) (k : Nat) (hk : k < N) (hlink : Cond.fieldLinkNest own index (T k).1 (T k).2.1 (T k).2.2.1 host ∈ nestW) (hfin : (T k).2.2.2 = false) (hd : parseFieldDescriptor (T k).2.2.1 = some .int) (hl : k < fs.length) {v : Int32} (he2 : sh x (upd (M id) k v) id = .inr (ci, fs.set k (.int v)))
    (hdg : decode cc pc = .ok (.putfield index, 3)) (kk : ∀ (H : Heap) (locs : List Loc), va_P (xD x) vwCl (wAll x (up2 M id k v)) H → va_S (gF x) s.heap H locs → W p l e R s m args below meth c H locs cells slots Q (F0 m (pc + 3) ls rest)) : W p l e R s m args below meth c H locs cells slots Q (F0 m pc ls (.int v :: .ref (xa x id) :: rest)) :=
  va_putN hx hb hts hin ty0 hty hnm hown hS.1 hP (hS.D M) hV id (wAll_get hid he) hc k hk (va_Nw.use rfl (hS.2.2.2.2.1 _ hlink)) (fun _ h => h) hfin hd rfl rfl hl hdg (fun H1 locs1 hP1 _ hV1 => kk H1 locs1 (by rw [wAll_up2 hid he2] at hP1; exact hP1) hV1)
theorem g_iald (hx : p.tables.exec = Jvm.exec) (hb : c.code = cc) (hS : GS x s) (hP : va_P (xD x) vwCl (wAll x M) H) {id n : Nat} (hid : id < 57) (he : sh x (M id) id = shI x n (M id)) (hn : n < 2 ^ 31) {i : Int32} {j : Nat} (hi : i = nI j) (hj : j < n) (hdg : decode cc pc = .ok (.iaload, 1))
    (kk : W p l e R s m args below meth c H locs cells slots Q (F0 m (pc + 1) ls (.int (M id j) :: rest))) : W p l e R s m args below meth c H locs cells slots Q (F0 m pc ls (.int i :: .ref (xa x id) :: rest)) := by
  subst hi
  refine va_iald hx hb hS.1 hP id 0 (wAll_get hid he) rfl (vp_in_nI hj hn) hdg ?_
  rw [nI_clamp (Nat.lt_trans hj hn)]
  exact kk
theorem g_zald (hx : p.tables.exec = Jvm.exec) (hb : c.code = cc) (hS : GS x s) (hP : va_P (xD x) vwCl (wAll x M) H) {id n : Nat} (hid : id < 57) (he : sh x (M id) id = shZ x n (M id)) (hn : n < 2 ^ 31) {i : Int32} {j : Nat} (hi : i = nI j) (hj : j < n) (hdg : decode cc pc = .ok (.baload, 1))
    (kk : W p l e R s m args below meth c H locs cells slots Q (F0 m (pc + 1) ls (.int (M id j) :: rest))) : W p l e R s m args below meth c H locs cells slots Q (F0 m pc ls (.int i :: .ref (xa x id) :: rest)) := by
  subst hi
  refine va_zald hx hb hS.1 hP id 1 (wAll_get hid he) rfl (vp_in_nI hj hn) hdg ?_
  rw [nI_clamp (Nat.lt_trans hj hn)]
  exact kk
theorem g_lald (hx : p.tables.exec = Jvm.exec) (hb : c.code = cc) (hS : GS x s) (hP : va_P (xD x) vwCl (wAll x M) H) (hdg : decode cc pc = .ok (.laload, 1))
    (kk : W p l e R s m args below meth c H locs cells slots Q (F0 m (pc + 1) ls (.long (M 56 0).toInt64 :: rest))) : W p l e R s m args below meth c H locs cells slots Q (F0 m pc ls (.int 0 :: .ref (xa x 56) :: rest)) := by
  exact va_lald (f := fun j => (M 56 j).toInt64) hx hb hS.1 hP 56 4 (wAll_get (by decide) rfl) rfl (vp_in_nI (n := 0) (N := 1) (by decide) (by decide)) hdg kk
theorem g_aaldR (hx : p.tables.exec = Jvm.exec) (hb : c.code = cc) (hS : GS x s) (hP : va_P (xD x) vwCl (wAll x M) H) {i : Int32} {j : Nat} (hi : i = nI j) (hj : j < 8) (hdg : decode cc pc = .ok (.aaload, 1))
    (kk : W p l e R s m args below meth c H locs cells slots Q (F0 m (pc + 1) ls (.ref (xa x (11 + 3 * j)) :: rest))) : W p l e R s m args below meth c H locs cells slots Q (F0 m pc ls (.int i :: .ref (xa x 1) :: rest)) := by
  subst hi
  refine va_aldq hx hb hS.1 hP 1 2 (wAll_get (by decide) rfl) rfl (vp_in_nI hj (by decide)) hdg ?_
  rw [nI_clamp (Nat.lt_trans hj (by decide))]
  exact kk
theorem g_aaldG (hx : p.tables.exec = Jvm.exec) (hb : c.code = cc) (hS : GS x s) (hP : va_P (xD x) vwCl (wAll x M) H) {i : Int32} {j : Nat} (hi : i = nI j) (hj : j < 5) (hdg : decode cc pc = .ok (.aaload, 1))
    (kk : W p l e R s m args below meth c H locs cells slots Q (F0 m (pc + 1) ls (.ref (xa x (6 + j)) :: rest))) : W p l e R s m args below meth c H locs cells slots Q (F0 m pc ls (.int i :: .ref (xa x 5) :: rest)) := by
  subst hi
  refine va_aldq hx hb hS.1 hP 5 3 (wAll_get (by decide) rfl) rfl (vp_in_nI hj (by decide)) hdg ?_
  rw [nI_clamp (Nat.lt_trans hj (by decide))]
  exact kk
theorem g_iast (hx : p.tables.exec = Jvm.exec) (hb : c.code = cc) (hS : GS x s) (hP : va_P (xD x) vwCl (wAll x M) H) (hV : va_S (gF x) s.heap H locs) {id n : Nat} (hid : id < 57) (he : ∀ r : Nat → Int32, sh x r id = shI x n r) (hn : n < 2 ^ 31) {i v : Int32} {j : Nat} (hi : i = nI j) (hj : j < n) (hdg : decode cc pc = .ok (.iastore, 1))
    (kk : ∀ (H : Heap) (locs : List Loc), va_P (xD x) vwCl (wAll x (up2 M id j v)) H → va_S (gF x) s.heap H locs → W p l e R s m args below meth c H locs cells slots Q (F0 m (pc + 1) ls rest)) : W p l e R s m args below meth c H locs cells slots Q (F0 m pc ls (.int v :: .int i :: .ref (xa x id) :: rest)) := by
  subst hi
  refine va_iast hx hb hS.1 hP (hS.D M) hV id 0 (wAll_get hid (he _)) rfl (vp_in_nI hj hn) hdg (fun H1 locs1 hP1 _ hV1 => kk H1 locs1 ?_ hV1)
  rw [nI_clamp (Nat.lt_trans hj hn), wAll_up2 (e := .inl (xA x 0, n, .inl (upd (M id) j v))) hid (he _)] at hP1
  exact hP1
theorem g_zast (hx : p.tables.exec = Jvm.exec) (hb : c.code = cc) (hS : GS x s) (hP : va_P (xD x) vwCl (wAll x M) H) (hV : va_S (gF x) s.heap H locs) {id n : Nat} (hid : id < 57) (he : ∀ r : Nat → Int32, sh x r id = shZ x n r) (hn : n < 2 ^ 31) {i v : Int32} {j : Nat} (hi : i = nI j) (hj : j < n) (hv : vp_nar .boolean v = v) (hdg : decode cc pc = .ok (.bastore, 1))
    (kk : ∀ (H : Heap) (locs : List Loc), va_P (xD x) vwCl (wAll x (up2 M id j v)) H → va_S (gF x) s.heap H locs → W p l e R s m args below meth c H locs cells slots Q (F0 m (pc + 1) ls rest)) : W p l e R s m args below meth c H locs cells slots Q (F0 m pc ls (.int v :: .int i :: .ref (xa x id) :: rest)) := by
  subst hi
  refine va_zast hx hb hS.1 hP (hS.D M) hV id 1 (wAll_get hid (he _)) rfl (vp_in_nI hj hn) hdg (fun H1 locs1 hP1 _ hV1 => kk H1 locs1 ?_ hV1)
  rw [nI_clamp (Nat.lt_trans hj hn), hv, wAll_up2 (e := .inl (xA x 1, n, .inl (upd (M id) j v))) hid (he _)] at hP1
  exact hP1
theorem g_last (hx : p.tables.exec = Jvm.exec) (hb : c.code = cc) (hS : GS x s) (hP : va_P (xD x) vwCl (wAll x M) H) (hV : va_S (gF x) s.heap H locs) {v : Int32} {w : Int64} (hw : v.toInt64 = w) (hdg : decode cc pc = .ok (.lastore, 1))
    (kk : ∀ (H : Heap) (locs : List Loc), va_P (xD x) vwCl (wAll x (up2 M 56 0 v)) H → va_S (gF x) s.heap H locs → W p l e R s m args below meth c H locs cells slots Q (F0 m (pc + 1) ls rest)) : W p l e R s m args below meth c H locs cells slots Q (F0 m pc ls (.long w :: .int 0 :: .ref (xa x 56) :: rest)) := by
  subst hw
  refine va_last (f := fun j => (M 56 j).toInt64) hx hb hS.1 hP (hS.D M) hV 56 4 (wAll_get (by decide) rfl) rfl (vp_in_nI (n := 0) (N := 1) (by decide) (by decide)) hdg (fun H1 locs1 hP1 _ hV1 => kk H1 locs1 ?_ hV1)
  have e : sh x (upd (M 56) 0 v) 56 = .inl (xA x 4, 1, .inr (.inl (vp_updL (fun j => (M 56 j).toInt64) (0 : Int32).toNatClampNeg v.toInt64))) := by
    have hf : (fun j => (upd (M 56) 0 v j).toInt64) = vp_updL (fun j => (M 56 j).toInt64) (0 : Int32).toNatClampNeg v.toInt64 := by
      funext j
      rw [sb_cl0]
      by_cases h : j = 0 <;> simp [upd, vp_updL, h]
    show (Sum.inl (xA x 4, 1, Sum.inr (Sum.inl fun j => (upd (M 56) 0 v j).toInt64)) : va_E) = _
    rw [hf]
  rw [wAll_up2 (by decide) e] at hP1
  exact hP1
theorem g_copy (hx : p.tables.exec = Jvm.exec) (hb : c.code = cc) (hml : c.maxLocals = ls.size) {own : String} {index : Nat} (hown : s.vm.findClass own = some m.cls) (hlink : (Cond.methodLink own index arraycopyName).before args s = true) (hnat : (Cond.native arraycopyName).before args s = true) (hstat : (Cond.static arraycopyName).before args s = true) (hini : (Cond.initialized "java/lang/System").before args s = true)
    (hS : GS x s) (hP : va_P (xD x) vwCl (wAll x M) H) (hV : va_S (gF x) s.heap H locs) {i0 i1 : Nat} (h0 : i0 < 57) (h1 : i1 < 57) (he0 : ∀ r : Nat → Int32, sh x r i0 = shI x 8 r) (he1 : ∀ r : Nat → Int32, sh x r i1 = shI x 8 r)
    (hframes : 1 ≤ R.frames) (hlocals : (rest.map fun v => v.category).sum + (nativeFrameWords "java/lang/System" "arraycopy" 5 + 11) ≤ R.locals) (hdg : decode cc pc = .ok (.invokestatic index, 3))
    (kk : ∀ (H : Heap) (locs : List Loc), va_P (xD x) vwCl (wAll x (fun a => if a = i1 then (fun k => if k < 8 then M i0 k else M i1 k) else M a)) H → va_S (gF x) s.heap H locs → W p l e R s m args below meth c H locs cells slots Q (F0 m (pc + 3) ls rest)) : W p l e R s m args below meth c H locs cells slots Q (F0 m pc ls (.int 8 :: .int 0 :: .ref (xa x i1) :: .int 0 :: .ref (xa x i0) :: rest)) := by
  refine va_copyi hx hb hml hown hlink hnat hstat hini hS.1 hP (hS.D M) hV i0 i1 0 0 (wAll_get h0 (he0 _)) (wAll_get h1 (he1 _)) rfl rfl rfl (by decide) (by decide) (by decide) (by decide) (by decide) (fun _ _ => rfl) hframes hlocals hdg (fun H1 locs1 hP1 _ hV1 => kk H1 locs1 ?_ hV1)
  have e : va_cpy (M i0) (M i1) (0 : Int32).toNatClampNeg (0 : Int32).toNatClampNeg (8 : Int32).toNatClampNeg = (fun k => if k < 8 then M i0 k else M i1 k) := by
    funext k
    show (if 0 ≤ k ∧ k < 0 + 8 then M i0 (0 + (k - 0)) else M i1 k) = _
    by_cases h : k < 8
    · rw [if_pos ⟨Nat.zero_le _, by omega⟩, if_pos h]; simp
    · rw [if_neg (by omega), if_neg h]
  rw [e, wAll_set (e := .inl (xA x 0, 8, .inl (fun k => if k < 8 then M i0 k else M i1 k))) h1 _ (he1 _)] at hP1
  exact hP1
/-- calls -/
theorem g_recv (hS : GS x s) (hP : va_P (xD x) vwCl (wAll x M) H) {id ci : Nat} {q : vw_C} {fs : List Value} (hid : id < 57) (he : sh x (M id) id = .inr (ci, fs)) (hc : vwCl[ci]? = some q) : ∃ cell : Cell, H[xa x id]? = some cell ∧ cell.vm.isStatics = false ∧ s.vm.findClass q.1 = some cell.cls := va_recv hS.1 hP hc (wAll_get hid he)
theorem g_preS (hS : GS x s) (hZ : GZ x s s.heap) (hP : va_P (xD x) vwCl (wAll x M) H) (hV : va_S (gF x) s.heap H locs) (As : List Value) : PreS s H (gP x M As) As :=
  ⟨gP_blind x M As, fun U hU hW => ⟨rfl, hS.warm hW, by rw [hU]; exact ⟨hP, (g_zk hS hZ hV).moved hW.alike⟩⟩⟩
theorem g_preV (hS : GS x s) (hZ : GZ x s s.heap) (hP : va_P (xD x) vwCl (wAll x M) H) (hV : va_S (gF x) s.heap H locs) (As : List Value) {id ci : Nat} {C : String} {T : u_T} {N : Nat} {fs : List Value} (hid : id < 57) (he : sh x (M id) id = .inr (ci, fs)) (hc : vwCl[ci]? = some (C, T, N)) : PreV s H C (xa x id) (gP x M (.ref (xa x id) :: As)) As :=
  ⟨gP_blind x M _, g_recv hS hP hid he hc, (g_preS hS hZ hP hV (.ref (xa x id) :: As)).2⟩
theorem g_call1 {mc ms : Nat} {v : Value} {M' : Nat → Nat → Int32} {a : Array Value} (hr : va_Run p l e R s m args below meth c H locs cells slots mc ms (F0 m pc ls st0) rest (gQ x (some v) M' a) (gF x)) (hV : va_S (gF x) s.heap H locs)
    (kk : ∀ (H : Heap) (locs : List Loc), va_P (xD x) vwCl (wAll x M') H → va_S (gF x) s.heap H locs → W p l e R s m args below meth c H locs (cells + mc) (slots + ms) Q (F0 m (pc + 3) ls (v :: rest))) : W p l e R s m args below meth c H locs cells slots Q (F0 m pc ls st0) := by
  intro T hT X
  obtain ⟨v', st₀, t, T', L, h0, X', hL, e1, e2, ⟨hv, hG, hF⟩, st⟩ := hr T hT X
  cases hv
  obtain ⟨k1, k2, k3⟩ := vx_keep h0 e1 hV (fun q _ h => h) (fun q h => h) hL hF
  obtain ⟨t2, a1, b1⟩ := kk T'.heap (locs ++ L) (by rw [e1]; exact hG.1) k3 T' rfl X'
  exact ⟨t2, st t2 a1, b1⟩
theorem g_call0 {mc ms : Nat} {M' : Nat → Nat → Int32} {a : Array Value} (hr : va_Run p l e R s m args below meth c H locs cells slots mc ms (F0 m pc ls st0) rest (gQ x none M' a) (gF x)) (hV : va_S (gF x) s.heap H locs)
    (kk : ∀ (H : Heap) (locs : List Loc), va_P (xD x) vwCl (wAll x M') H → va_S (gF x) s.heap H locs → W p l e R s m args below meth c H locs (cells + mc) (slots + ms) Q (F0 m (pc + 3) ls rest)) : W p l e R s m args below meth c H locs cells slots Q (F0 m pc ls st0) := by
  intro T hT X
  obtain ⟨v', st₀, t, T', L, h0, X', hL, e1, e2, ⟨hv, hG, hF⟩, st⟩ := hr T hT X
  cases hv
  obtain ⟨k1, k2, k3⟩ := vx_keep h0 e1 hV (fun q _ h => h) (fun q h => h) hL hF
  obtain ⟨t2, a1, b1⟩ := kk T'.heap (locs ++ L) (by rw [e1]; exact hG.1) k3 T' rfl X'
  exact ⟨t2, st t2 a1, b1⟩
/-- what a method that may throw says -/
def gQx (x : Cx) (err : Option String) (r : Option Value) (M : Nat → Nat → Int32) : Array Value → State → Outcome → State → Prop := fun a st o t => err = none ∧ gQ x r M a st o t
def gX (x : Cx) (err : Option String) (M : Nat → Nat → Int32) : String → State → State → Prop := fun E st t => err = some E ∧ GH x M t t.heap ∧ va_F (gF x) st t
theorem g_xcall1 {mc ms : Nat} {v : Value} {err : Option String} {M' MX : Nat → Nat → Int32} {a : Array Value} (hr : vx_Run p l e R s m args below meth c H locs cells slots mc ms (F0 m pc ls st0) rest (gQx x err (some v) M' a) (gX x err MX) (gF x)) (hV : va_S (gF x) s.heap H locs)
    (kx : ∀ (E : String) (ce : Cell) (q : Addr) (H : Heap) (locs : List Loc), err = some E → va_P (xD x) vwCl (wAll x MX) H → va_S (gF x) s.heap H locs → H[q]? = some ce → ce.vm = .none → s.vm.findClass E = some ce.cls → vx_W p l e R s m args below meth c H locs (cells + mc) (slots + ms) Q (F0 m pc ls rest) q)
    (kk : ∀ (H : Heap) (locs : List Loc), err = none → va_P (xD x) vwCl (wAll x M') H → va_S (gF x) s.heap H locs → W p l e R s m args below meth c H locs (cells + mc) (slots + ms) Q (F0 m (pc + 3) ls (v :: rest))) : W p l e R s m args below meth c H locs cells slots Q (F0 m pc ls st0) := by
  intro T hT X
  rcases hr T hT X with ⟨v', st₀, t, T', L, h0, X', hL, e1, e2, ⟨he, hv, hG, hF⟩, st⟩ | ⟨q, st₀, t, T', L, E, ce, h0, X', hL, e1, e2, ⟨he, hG, hF⟩, hce, hcv, hcl, st⟩
  · cases hv
    obtain ⟨k1, k2, k3⟩ := vx_keep h0 e1 hV (fun q _ h => h) (fun q h => h) hL hF
    obtain ⟨t2, a1, b1⟩ := kk T'.heap (locs ++ L) he (by rw [e1]; exact hG.1) k3 T' rfl X'
    exact ⟨t2, st t2 a1, b1⟩
  · obtain ⟨k1, k2, k3⟩ := vx_keep h0 e1 hV (fun q _ h => h) (fun q h => h) hL hF
    obtain ⟨t2, a1, b1⟩ := kx E ce q T'.heap (locs ++ L) he (by rw [e1]; exact hG.1) k3 (by rw [e1]; exact hce) hcv hcl T' rfl X'
    exact ⟨t2, st.trans a1, b1⟩
theorem g_xcall0 {mc ms : Nat} {err : Option String} {M' MX : Nat → Nat → Int32} {a : Array Value} (hr : vx_Run p l e R s m args below meth c H locs cells slots mc ms (F0 m pc ls st0) rest (gQx x err none M' a) (gX x err MX) (gF x)) (hV : va_S (gF x) s.heap H locs)
    (kx : ∀ (E : String) (ce : Cell) (q : Addr) (H : Heap) (locs : List Loc), err = some E → va_P (xD x) vwCl (wAll x MX) H → va_S (gF x) s.heap H locs → H[q]? = some ce → ce.vm = .none → s.vm.findClass E = some ce.cls → vx_W p l e R s m args below meth c H locs (cells + mc) (slots + ms) Q (F0 m pc ls rest) q)
    (kk : ∀ (H : Heap) (locs : List Loc), err = none → va_P (xD x) vwCl (wAll x M') H → va_S (gF x) s.heap H locs → W p l e R s m args below meth c H locs (cells + mc) (slots + ms) Q (F0 m (pc + 3) ls rest)) : W p l e R s m args below meth c H locs cells slots Q (F0 m pc ls st0) := by
  intro T hT X
  rcases hr T hT X with ⟨v', st₀, t, T', L, h0, X', hL, e1, e2, ⟨he, hv, hG, hF⟩, st⟩ | ⟨q, st₀, t, T', L, E, ce, h0, X', hL, e1, e2, ⟨he, hG, hF⟩, hce, hcv, hcl, st⟩
  · cases hv
    obtain ⟨k1, k2, k3⟩ := vx_keep h0 e1 hV (fun q _ h => h) (fun q h => h) hL hF
    obtain ⟨t2, a1, b1⟩ := kk T'.heap (locs ++ L) he (by rw [e1]; exact hG.1) k3 T' rfl X'
    exact ⟨t2, st t2 a1, b1⟩
  · obtain ⟨k1, k2, k3⟩ := vx_keep h0 e1 hV (fun q _ h => h) (fun q h => h) hL hF
    obtain ⟨t2, a1, b1⟩ := kx E ce q T'.heap (locs ++ L) he (by rw [e1]; exact hG.1) k3 (by rw [e1]; exact hce) hcv hcl T' rfl X'
    exact ⟨t2, st.trans a1, b1⟩
/-- ends -/
theorem g_hq (hS : GS x s) (hZ : GZ x s s.heap) (hP : va_P (xD x) vwCl (wAll x M) H) (hV : va_S (gF x) s.heap H locs) (r : Option Value) (a : Array Value) : ∀ t : State, t.heap = H → s.WarmedH t.vm → gQ x r M a s (.returned r) t := fun t ht hW => ⟨rfl, by rw [ht]; exact ⟨hP, (g_zk hS hZ hV).moved hW.alike⟩, hV.F ht⟩
theorem g_iret {mc ms : Nat} {v r : Int32} {M' : Nat → Nat → Int32} (hx : p.tables.exec = Jvm.exec) (hb : c.code = cc) (hr : meth.sig.returnType = some .int) (hlk : meth.locks = false) (hS : GS x s) (hZ : GZ x s s.heap) (hP : va_P (xD x) vwCl (wAll x M) H) (hV : va_S (gF x) s.heap H locs) (h1 : cells ≤ mc) (h2 : slots ≤ ms) (hdg : decode cc pc = .ok (.ireturn, 1)) (hv : v = r) (hM : M = M') : W p l e R s m args below meth c H locs cells slots (MQ below (gQ x (some (.int r)) M') args s mc ms (gF x)) (F0 m pc ls [.int v]) := by
  subst hv; subst hM
  exact W.widen h1 h2 (W.iret hx hb hr (g_hq hS hZ hP hV _ _) hV.2.2 hdg hlk)
theorem g_zret {mc ms : Nat} {v r : Int32} {M' : Nat → Nat → Int32} (hx : p.tables.exec = Jvm.exec) (hb : c.code = cc) (hr : meth.sig.returnType = some .boolean) (hlk : meth.locks = false) (hS : GS x s) (hZ : GZ x s s.heap) (hP : va_P (xD x) vwCl (wAll x M) H) (hV : va_S (gF x) s.heap H locs) (h1 : cells ≤ mc) (h2 : slots ≤ ms) (hdg : decode cc pc = .ok (.ireturn, 1)) (hn : vp_nar .boolean v = v) (hv : v = r) (hM : M = M') : W p l e R s m args below meth c H locs cells slots (MQ below (gQ x (some (.int r)) M') args s mc ms (gF x)) (F0 m pc ls [.int v]) := by
  subst hv; subst hM
  exact W.widen h1 h2 (W.zret hx hb hr (by have h9 : narrow .boolean (.int v) = .int (vp_nar .boolean v) := rfl; rw [h9, hn]) (g_hq hS hZ hP hV _ _) hV.2.2 hdg hlk)
theorem g_lret {mc ms : Nat} {v r : Int64} {M' : Nat → Nat → Int32} (hx : p.tables.exec = Jvm.exec) (hb : c.code = cc) (hr : meth.sig.returnType = some .long) (hlk : meth.locks = false) (hS : GS x s) (hZ : GZ x s s.heap) (hP : va_P (xD x) vwCl (wAll x M) H) (hV : va_S (gF x) s.heap H locs) (h1 : cells ≤ mc) (h2 : slots ≤ ms) (hdg : decode cc pc = .ok (.lreturn, 1)) (hv : v = r) (hM : M = M') : W p l e R s m args below meth c H locs cells slots (MQ below (gQ x (some (.long r)) M') args s mc ms (gF x)) (F0 m pc ls [.long v]) := by
  subst hv; subst hM
  exact W.widen h1 h2 (W.lret hx hb hr (g_hq hS hZ hP hV _ _) hV.2.2 hdg hlk)
theorem g_vret {mc ms : Nat} {M' : Nat → Nat → Int32} (hx : p.tables.exec = Jvm.exec) (hb : c.code = cc) (hr : meth.sig.returnType = none) (hlk : meth.locks = false) (hS : GS x s) (hZ : GZ x s s.heap) (hP : va_P (xD x) vwCl (wAll x M) H) (hV : va_S (gF x) s.heap H locs) (h1 : cells ≤ mc) (h2 : slots ≤ ms) (hdg : decode cc pc = .ok (.return_, 1)) (hM : M = M') : W p l e R s m args below meth c H locs cells slots (MQ below (gQ x none M') args s mc ms (gF x)) (F0 m pc ls []) := by
  subst hM
  exact W.widen h1 h2 (W.vret hx hb hr (g_hq hS hZ hP hV _ _) hV.2.2 hdg hlk)
theorem g_mqx {err : Option String} {r : Option Value} {M' : Nat → Nat → Int32} {XC : String → State → State → Prop} {mc ms : Nat} {g : JFrame} (he : err = none) (k : W p l e R s m args below meth c H locs cells slots (MQ below (gQ x r M') args s mc ms (gF x)) g) : W p l e R s m args below meth c H locs cells slots (vx_MQ below (gQx x err r M') XC args s mc ms (gF x)) g := by
  refine vx_ret ?_
  intro T hT X
  obtain ⟨t, a1, o, b1, b2, b3, b4⟩ := k T hT X
  exact ⟨t, a1, o, b1, b2, ⟨he, b3⟩, b4⟩
/-- an exception of a callee that this method doesn't catch -/
theorem g_xout {err err' : Option String} {r : Option Value} {M' MX : Nat → Nat → Int32} {mc ms : Nat} (ht : ∀ x ∈ c.exceptionTable.toList, False) (hlk : meth.locks = false) (hS : GS x s) (hZ : GZ x s s.heap) (h1 : cells ≤ mc) (h2 : slots ≤ ms) {E : String} {ce : Cell} {q : Addr} (he : err' = some E) (hM : M = MX) (hP : va_P (xD x) vwCl (wAll x M) H) (hV : va_S (gF x) s.heap H locs) (h3 : H[q]? = some ce) (h4 : ce.vm = .none) (h5 : s.vm.findClass E = some ce.cls) :
    vx_W p l e R s m args below meth c H locs cells slots (vx_MQ below (gQx x err r M') (gX x err' MX) args s mc ms (gF x)) (F0 m pc ls rest) q := by
  subst hM
  exact vx_out (fun z hz => (ht z hz).elim) hlk h3 h4 h5 (fun t htt hA => ⟨he, by rw [htt]; exact ⟨hP, (g_zk hS hZ hV).moved hA⟩, hV.F htt⟩) hV.2.2 h1 h2
end GW
theorem g_met {l : Launch} {y : MethodName} {ws ws' : List Cond} {rm : Room} {x : Cx} {M : Nat → Nat → Int32} {as : List Value} {Qc : Array Value → State → Outcome → State → Prop} {mc ms : Nat} {free : Addr → Prop} {cc : ByteArray} {maxL : Nat} {ret : Option FieldType} (hy : plainName y.cls = true) (hw : ws = Cond.code y cc maxL ret :: ws') (hlen : (lg_sl as).length ≤ maxL)
    (body : ∀ (p : Program) (e : Env) (s : State) (m : MethodId) (below : List Frame) (meth : Method) (c : Code), p.tables.exec = Jvm.exec → c.code = cc → meth.sig.returnType = ret → c.maxLocals = maxL → (∀ w ∈ ws, w.before as.toArray s = true) → s.vm.findClass y.cls = some m.cls → meth.locks = false → GS x s → GZ x s s.heap → va_P (xD x) vwCl (wAll x M) s.heap → va_S (gF x) s.heap s.heap [] → ∀ ls : Array Slot, lv_has ls maxL (lv_args 0 as) →
      W p l e rm s m as.toArray below meth c s.heap [] 0 0 (MQ below Qc as.toArray s mc ms free) (F0 m 0 ls [])) : Met l y ws rm (gP x M as) Qc mc ms free := by
  refine Met.ofW (cc := cc) (maxL := maxL) (ret := ret) hy hw ?_
  intro p e s m args below meth c s₁ B hml hv
  obtain ⟨rfl, hS, hP, hZ⟩ := hv
  rw [lg_entry_eq]
  exact body p e s m below meth c B.exec B.bytes B.returns hml (atoms_spec (ws := ws) B.pre) (findClass_of_methodNamed B.named) B.notSynchronized hS hZ hP va_S.rf _ (lv_entry as hlen)
theorem g_metW {l : Launch} {y : MethodName} {ws ws' : List Cond} {rm : Room} {x : Cx} {M : Nat → Nat → Int32} {as : List Value} {Qc : Array Value → State → Outcome → State → Prop} {mc ms : Nat} {free : Addr → Prop} {cc : ByteArray} {maxL : Nat} {ret : Option FieldType} {hh : List (Nat × Nat × Nat × Nat)} (hy : plainName y.cls = true) (hw : ws = Cond.codeWith y cc maxL ret hh :: ws') (hlen : (lg_sl as).length ≤ maxL)
    (body : ∀ (p : Program) (e : Env) (s : State) (m : MethodId) (below : List Frame) (meth : Method) (c : Code), p.tables.exec = Jvm.exec → c.code = cc → meth.sig.returnType = ret → c.maxLocals = maxL → (∀ w ∈ ws, w.before as.toArray s = true) → s.vm.findClass y.cls = some m.cls → meth.locks = false → c.exceptionTable.toList = tableOf hh → GS x s → GZ x s s.heap → va_P (xD x) vwCl (wAll x M) s.heap → va_S (gF x) s.heap s.heap [] → ∀ ls : Array Slot, lv_has ls maxL (lv_args 0 as) →
      W p l e rm s m as.toArray below meth c s.heap [] 0 0 (MQ below Qc as.toArray s mc ms free) (F0 m 0 ls [])) : Met l y ws rm (gP x M as) Qc mc ms free := by
  refine va_MetW (cc := cc) (maxL := maxL) (ret := ret) hy hw ?_
  intro p e s m args below meth c s₁ B hml hv
  obtain ⟨rfl, hS, hP, hZ⟩ := hv
  rw [lg_entry_eq]
  exact body p e s m below meth c B.exec B.bytes B.returns hml (atoms_spec (ws := ws) B.pre) (findClass_of_methodNamed B.named) B.notSynchronized (vx_table (x := y) B (atoms_spec (ws := ws) B.pre _ (by rw [hw]; exact List.mem_cons_self))) hS hZ hP va_S.rf _ (lv_entry as hlen)
theorem g_metx {l : Launch} {y : MethodName} {ws ws' : List Cond} {rm : Room} {x : Cx} {M : Nat → Nat → Int32} {as : List Value} {Qc : Array Value → State → Outcome → State → Prop} {XC : String → State → State → Prop} {mc ms : Nat} {free : Addr → Prop} {cc : ByteArray} {maxL : Nat} {ret : Option FieldType} (hy : plainName y.cls = true) (hw : ws = Cond.code y cc maxL ret :: ws') (hlen : (lg_sl as).length ≤ maxL)
    (body : ∀ (p : Program) (e : Env) (s : State) (m : MethodId) (below : List Frame) (meth : Method) (c : Code), p.tables.exec = Jvm.exec → c.code = cc → meth.sig.returnType = ret → c.maxLocals = maxL → (∀ w ∈ ws, w.before as.toArray s = true) → s.vm.findClass y.cls = some m.cls → meth.locks = false → (∀ x ∈ c.exceptionTable.toList, False) → GS x s → GZ x s s.heap → va_P (xD x) vwCl (wAll x M) s.heap → va_S (gF x) s.heap s.heap [] → ∀ ls : Array Slot, lv_has ls maxL (lv_args 0 as) →
      W p l e rm s m as.toArray below meth c s.heap [] 0 0 (vx_MQ below Qc XC as.toArray s mc ms free) (F0 m 0 ls [])) : vx_Met l y ws rm (gP x M as) Qc XC mc ms free := by
  refine vx_ofW (cc := cc) (maxL := maxL) (ret := ret) hy hw ?_
  intro p e s m args below meth c s₁ B hml ht hv
  obtain ⟨rfl, hS, hP, hZ⟩ := hv
  rw [lg_entry_eq]
  exact body p e s m below meth c B.exec B.bytes B.returns hml (atoms_spec (ws := ws) B.pre) (findClass_of_methodNamed B.named) B.notSynchronized ht hS hZ hP va_S.rf _ (lv_entry as hlen)
theorem exc_h2_63 : ∀ w ∈ (vx_atS RX2 63 eI excN).filter (fun w => !goodWord w), w ∈ excB eI := by decide +kernel
theorem exc_h2_117 : ∀ w ∈ (vx_atS RX2 117 eA excN).filter (fun w => !goodWord w), w ∈ excB eA := by decide +kernel
theorem exc_h2_194 : ∀ w ∈ (vx_atS RX2 194 eX excN).filter (fun w => !goodWord w), w ∈ excB eX := by decide +kernel
theorem exc_ot_63 : ∀ w ∈ Cond.classLink RX2 59 eI :: Cond.initialized eI :: vx_atS RX2 63 eI excN, vx_ot w = true := by decide +kernel
theorem exc_ot_117 : ∀ w ∈ Cond.classLink RX2 113 eA :: Cond.initialized eA :: vx_atS RX2 117 eA excN, vx_ot w = true := by decide +kernel
theorem exc_ot_194 : ∀ w ∈ Cond.classLink RX2 190 eX :: Cond.initialized eX :: vx_atS RX2 194 eX excN, vx_ot w = true := by decide +kernel
theorem exc_fit : ∀ E ∈ excW, Bundle.fit E = true := by decide +kernel
theorem exc_fitN : ∀ n ∈ excN, Bundle.fit n = true := by decide +kernel
theorem exc_hat {x : Cx} {s : State} {args : Array Value} {ic : Nat} {E : String} (hS : GS x s) (hE : E ∈ excW) (h2 : ∀ w ∈ (vx_atS RX2 ic E excN).filter (fun w => !goodWord w), w ∈ excB E) (h1 : ∀ w ∈ (vx_atS RX2 ic E excN).filter goodWord, w.before args s = true) : ∀ w ∈ vx_atS RX2 ic E excN, w.before args s = true :=
  vx_hat h1 h2 (fun w hw => va_Nw.use (by simp only [excB, List.mem_cons, List.not_mem_nil, or_false] at hw; rcases hw with rfl | rfl | rfl | rfl <;> rfl) (hS.2.2.2.2.2.2.1 E hE w hw))
/-- a throw of the office's own -/
theorem g_throw {p : Program} {l : Launch} {e : Env} {R : Room} {s : State} {m : MethodId} {args : Array Value} {below : List Frame} {meth : Method} {c : Code} {H : Heap} {locs : List Loc} {cells slots : Nat} {cc : ByteArray} {pc : Nat} {ls : Array Slot} {rest : List Value} {x : Cx} {M : Nat → Nat → Int32} {err' : Option String} {r : Option Value} {M' MX : Nat → Nat → Int32} {mc ms ik is ic : Nat} {E text : String}
    (hx : p.tables.exec = Jvm.exec) (hb : c.code = cc) (ht : ∀ x ∈ c.exceptionTable.toList, False) (hlf : l.stackTraces = false) (hown : s.vm.findClass RX2 = some m.cls) (hE : E ∈ excW) (hk : (Cond.classLink RX2 ik E).before args s = true) (hini : (Cond.initialized E).before args s = true) (hstr : (is, text) ∈ strW) (hat : ∀ w ∈ vx_atS RX2 ic E excN, w.before args s = true)
    (hgood : ∀ w ∈ Cond.classLink RX2 ik E :: Cond.initialized E :: vx_atS RX2 ic E excN, vx_ot w = true) (hlk : meth.locks = false) (hS : GS x s) (hZ : GZ x s s.heap) (hP : va_P (xD x) vwCl (wAll x M) H) (hV : va_S (gF x) s.heap H locs) (hsize : ls.size = c.maxLocals)
    (d0 : decode cc pc = .ok (.new ik, 3)) (d3 : decode cc (pc + 3) = .ok (.dup, 1)) (d4 : decode cc (pc + 4) = .ok (.ldc is, 2)) (d6 : decode cc (pc + 6) = .ok (.invokespecial ic, 3)) (d9 : decode cc (pc + 9) = .ok (.athrow, 1))
    (hRframes : 5 < R.frames) (hRlocals : (rest.map fun v => v.category).sum + 82 ≤ R.locals) (hRcells : cells + 1 ≤ R.cells) (hRslots : slots + 6 ≤ R.slots) (hc : cells + 1 ≤ mc) (hs : slots + 6 ≤ ms) (he : err' = some E) (hM : M = MX) :
    W p l e R s m args below meth c H locs cells slots (vx_MQ below (gQx x err' r M') (gX x err' MX) args s mc ms (gF x)) (F0 m pc ls rest) := by
  subst hM
  refine vx_throwS (A := gF x) (names := excN) (sa := xs x is) (text := text) hx hb hlf hown (exc_fit E hE) exc_fitN hk hini (hS.2.2.2.2.2.1 (is, text) hstr) hat hgood hZ.1 hZ.2.1 hV hsize d0 d3 d4 d6 d9 (fun z hz => (ht z hz).elim) hRframes hRlocals hRcells hRslots hlk ?_ hV.2.2 hc hs
  intro t hA hz hq
  have hV2 : va_S (gF x) s.heap t.heap [] := ⟨Nat.le_trans hV.1 hz, fun q h1 h2 => (hq q (Nat.lt_of_lt_of_le h1 hV.1)).trans (hV.2.1 q h1 h2), fun _ h => nomatch h⟩
  exact ⟨he, ⟨hP.kept (fun k q hk => hq q.1 ((hP k q hk).lt)), (g_zk hS hZ hV2).moved hA⟩, ⟨hV2.1, hV2.2.1⟩⟩
section HW
variable {p : Program} {l : Launch} {e : Env} {R : Room} {s : State} {m : MethodId} {args : Array Value} {below : List Frame} {meth : Method} {c : Code} {H : Heap} {locs : List Loc} {cells slots : Nat} {Q : State → Prop} {cc : ByteArray} {pc : Nat} {ls : Array Slot} {rest : List Value}
theorem h_iadd {a b v : Int32} (hx : p.tables.exec = Jvm.exec) (hb : c.code = cc) (hdg : decode cc pc = .ok (.iadd, 1)) (hv : a + b = v) (k : W p l e R s m args below meth c H locs cells slots Q (F0 m (pc + 1) ls (.int v :: rest))) : W p l e R s m args below meth c H locs cells slots Q (F0 m pc ls (.int b :: .int a :: rest)) := lv_iadd hx hb hdg (by rw [hv]; exact k)
theorem h_isub {a b v : Int32} (hx : p.tables.exec = Jvm.exec) (hb : c.code = cc) (hdg : decode cc pc = .ok (.isub, 1)) (hv : a - b = v) (k : W p l e R s m args below meth c H locs cells slots Q (F0 m (pc + 1) ls (.int v :: rest))) : W p l e R s m args below meth c H locs cells slots Q (F0 m pc ls (.int b :: .int a :: rest)) := lv_isub hx hb hdg (by rw [hv]; exact k)
theorem h_imul {a b v : Int32} (hx : p.tables.exec = Jvm.exec) (hb : c.code = cc) (hdg : decode cc pc = .ok (.imul, 1)) (hv : a * b = v) (k : W p l e R s m args below meth c H locs cells slots Q (F0 m (pc + 1) ls (.int v :: rest))) : W p l e R s m args below meth c H locs cells slots Q (F0 m pc ls (.int b :: .int a :: rest)) := lv_imul hx hb hdg (by rw [hv]; exact k)
theorem h_sub (a b : Nat) : nI (a + b) - nI b = nI a := by rw [pk_sub (Nat.le_add_left _ _), Nat.add_sub_cancel]
theorem bI_nar (b : Bool) : vp_nar .boolean (bI b) = bI b := by cases b <;> rfl
theorem bI_0 (b : Bool) : bI b = 0 ↔ b = false := by cases b <;> simp [bI]
theorem h_if_eq_b {b : Bool} (hx : p.tables.exec = Jvm.exec) (hb : c.code = cc) {off : Int} {tgt : Nat} (hdg : decode cc pc = .ok (.ifCond .eq off, 3)) (ht : (pc : Int) + off = (tgt : Int)) (kt : b = false → W p l e R s m args below meth c H locs cells slots Q (F0 m tgt ls rest)) (kf : b = true → W p l e R s m args below meth c H locs cells slots Q (F0 m (pc + 3) ls rest)) : W p l e R s m args below meth c H locs cells slots Q (F0 m pc ls (.int (bI b) :: rest)) :=
  lv_if_eq hx hb hdg ht (fun h => kt ((bI_0 b).mp h)) (fun h => kf (by cases b <;> simp_all [bI]))
theorem h_if_ne_b {b : Bool} (hx : p.tables.exec = Jvm.exec) (hb : c.code = cc) {off : Int} {tgt : Nat} (hdg : decode cc pc = .ok (.ifCond .ne off, 3)) (ht : (pc : Int) + off = (tgt : Int)) (kt : b = true → W p l e R s m args below meth c H locs cells slots Q (F0 m tgt ls rest)) (kf : b = false → W p l e R s m args below meth c H locs cells slots Q (F0 m (pc + 3) ls rest)) : W p l e R s m args below meth c H locs cells slots Q (F0 m pc ls (.int (bI b) :: rest)) :=
  lv_if_ne hx hb hdg ht (fun h => kt (by cases b <;> simp_all [bI])) (fun h => kf (by cases b <;> simp_all [bI]))
theorem h_icmp_lt_n {a b : Nat} (hx : p.tables.exec = Jvm.exec) (hb : c.code = cc) (ha : a < 2 ^ 31) (hb' : b < 2 ^ 31) {off : Int} {tgt : Nat} (hdg : decode cc pc = .ok (.if_icmp .lt off, 3)) (ht : (pc : Int) + off = (tgt : Int)) (kt : a < b → W p l e R s m args below meth c H locs cells slots Q (F0 m tgt ls rest)) (kf : b ≤ a → W p l e R s m args below meth c H locs cells slots Q (F0 m (pc + 3) ls rest)) : W p l e R s m args below meth c H locs cells slots Q (F0 m pc ls (.int (nI b) :: .int (nI a) :: rest)) :=
  lv_icmp_lt hx hb hdg ht (fun h => kt ((nI_ltI ha hb').mp h)) (fun h => kf (Nat.not_lt.mp fun q => h ((nI_ltI ha hb').mpr q)))
theorem h_icmp_ge_n {a b : Nat} (hx : p.tables.exec = Jvm.exec) (hb : c.code = cc) (ha : a < 2 ^ 31) (hb' : b < 2 ^ 31) {off : Int} {tgt : Nat} (hdg : decode cc pc = .ok (.if_icmp .ge off, 3)) (ht : (pc : Int) + off = (tgt : Int)) (kt : b ≤ a → W p l e R s m args below meth c H locs cells slots Q (F0 m tgt ls rest)) (kf : a < b → W p l e R s m args below meth c H locs cells slots Q (F0 m (pc + 3) ls rest)) : W p l e R s m args below meth c H locs cells slots Q (F0 m pc ls (.int (nI b) :: .int (nI a) :: rest)) :=
  lv_icmp_ge hx hb hdg ht (fun h => kt ((nI_leI hb' ha).mp h)) (fun h => kf (Nat.not_le.mp fun q => h ((nI_leI hb' ha).mpr q)))
theorem h_icmp_gt_n {a b : Nat} (hx : p.tables.exec = Jvm.exec) (hb : c.code = cc) (ha : a < 2 ^ 31) (hb' : b < 2 ^ 31) {off : Int} {tgt : Nat} (hdg : decode cc pc = .ok (.if_icmp .gt off, 3)) (ht : (pc : Int) + off = (tgt : Int)) (kt : b < a → W p l e R s m args below meth c H locs cells slots Q (F0 m tgt ls rest)) (kf : a ≤ b → W p l e R s m args below meth c H locs cells slots Q (F0 m (pc + 3) ls rest)) : W p l e R s m args below meth c H locs cells slots Q (F0 m pc ls (.int (nI b) :: .int (nI a) :: rest)) :=
  lv_icmp_gt hx hb hdg ht (fun h => kt ((nI_ltI hb' ha).mp h)) (fun h => kf (Nat.not_lt.mp fun q => h ((nI_ltI hb' ha).mpr q)))
theorem h_icmp_le_n {a b : Nat} (hx : p.tables.exec = Jvm.exec) (hb : c.code = cc) (ha : a < 2 ^ 31) (hb' : b < 2 ^ 31) {off : Int} {tgt : Nat} (hdg : decode cc pc = .ok (.if_icmp .le off, 3)) (ht : (pc : Int) + off = (tgt : Int)) (kt : a ≤ b → W p l e R s m args below meth c H locs cells slots Q (F0 m tgt ls rest)) (kf : b < a → W p l e R s m args below meth c H locs cells slots Q (F0 m (pc + 3) ls rest)) : W p l e R s m args below meth c H locs cells slots Q (F0 m pc ls (.int (nI b) :: .int (nI a) :: rest)) :=
  lv_icmp_le hx hb hdg ht (fun h => kt ((nI_leI ha hb').mp h)) (fun h => kf (Nat.not_le.mp fun q => h ((nI_leI ha hb').mpr q)))
theorem h_icmp_eq_n {a b : Nat} (hx : p.tables.exec = Jvm.exec) (hb : c.code = cc) (ha : a < 2 ^ 31) (hb' : b < 2 ^ 31) {off : Int} {tgt : Nat} (hdg : decode cc pc = .ok (.if_icmp .eq off, 3)) (ht : (pc : Int) + off = (tgt : Int)) (kt : a = b → W p l e R s m args below meth c H locs cells slots Q (F0 m tgt ls rest)) (kf : a ≠ b → W p l e R s m args below meth c H locs cells slots Q (F0 m (pc + 3) ls rest)) : W p l e R s m args below meth c H locs cells slots Q (F0 m pc ls (.int (nI b) :: .int (nI a) :: rest)) :=
  lv_icmp_eq hx hb hdg ht (fun h => kt ((nI_eq ha hb').mp h)) (fun h => kf fun q => h ((nI_eq ha hb').mpr q))
theorem h_icmp_ne_n {a b : Nat} (hx : p.tables.exec = Jvm.exec) (hb : c.code = cc) (ha : a < 2 ^ 31) (hb' : b < 2 ^ 31) {off : Int} {tgt : Nat} (hdg : decode cc pc = .ok (.if_icmp .ne off, 3)) (ht : (pc : Int) + off = (tgt : Int)) (kt : a ≠ b → W p l e R s m args below meth c H locs cells slots Q (F0 m tgt ls rest)) (kf : a = b → W p l e R s m args below meth c H locs cells slots Q (F0 m (pc + 3) ls rest)) : W p l e R s m args below meth c H locs cells slots Q (F0 m pc ls (.int (nI b) :: .int (nI a) :: rest)) :=
  lv_icmp_ne hx hb hdg ht (fun h => kt fun q => h ((nI_eq ha hb').mpr q)) (fun h => kf ((nI_eq ha hb').mp h))
end HW
theorem h_idx {q : Int32} {n : Nat} {r : Int32} (h1 : ¬ q < 0) (h2 : ¬ r ≤ q) (hn : r = nI n) (hn2 : n < 2 ^ 31 := by omega) : ∃ j : Nat, j < n ∧ q = nI j := by
  obtain ⟨j, hj, rfl⟩ := nI_of h1
  subst hn
  exact ⟨j, Nat.not_le.mp fun z => h2 (nI_le z hj), rfl⟩
theorem h_ne0 {x : Int32} (h : ¬ x ≤ 0) : ¬ x = 0 := fun e => h (by rw [e]; decide)
theorem h_min {p : Program} {l : Launch} {e : Env} {R : Room} {s : State} {m : MethodId} {args : Array Value} {below : List Frame} {meth : Method} {c : Code} {H : Heap} {locs : List Loc} {cells slots : Nat} {Q : State → Prop} {cc : ByteArray} {pc : Nat} {ls : Array Slot} {rest : List Value} (hexec : p.tables.exec = Jvm.exec) (hb : c.code = cc) (hml : c.maxLocals = ls.size) {own : String} {index : Nat} (hown : s.vm.findClass own = some m.cls) (hlink : (Cond.methodLink own index Lib.Math.min.name).before args s = true) (hstat : (Cond.static Lib.Math.min.name).before args s = true) (hini : (Cond.initialized "java/lang/Math").before args s = true) (hcode : (Cond.code Lib.Math.min.name Lib.Math.min.code 2 (some .int)).before args s = true)
    (hframes : 1 ≤ R.frames) (hlocals : (rest.map fun v => v.category).sum + 13 ≤ R.locals) (hc : cells ≤ R.cells) (hs : slots ≤ R.slots) {x y : Int32} (hdg : decode cc pc = .ok (.invokestatic index, 3))
    (kk : W p l e R s m args below meth c H locs cells slots Q (F0 m (pc + 3) ls (.int (minI x y) :: rest))) : W p l e R s m args below meth c H locs cells slots Q (F0 m pc ls (.int y :: .int x :: rest)) := va_mmin hexec hb hml hown hlink hstat hini hcode hframes hlocals hc hs hdg kk
theorem h_max {p : Program} {l : Launch} {e : Env} {R : Room} {s : State} {m : MethodId} {args : Array Value} {below : List Frame} {meth : Method} {c : Code} {H : Heap} {locs : List Loc} {cells slots : Nat} {Q : State → Prop} {cc : ByteArray} {pc : Nat} {ls : Array Slot} {rest : List Value} (hexec : p.tables.exec = Jvm.exec) (hb : c.code = cc) (hml : c.maxLocals = ls.size) {own : String} {index : Nat} (hown : s.vm.findClass own = some m.cls) (hlink : (Cond.methodLink own index Lib.Math.max.name).before args s = true) (hstat : (Cond.static Lib.Math.max.name).before args s = true) (hini : (Cond.initialized "java/lang/Math").before args s = true) (hcode : (Cond.code Lib.Math.max.name Lib.Math.max.code 2 (some .int)).before args s = true)
    (hframes : 1 ≤ R.frames) (hlocals : (rest.map fun v => v.category).sum + 13 ≤ R.locals) (hc : cells ≤ R.cells) (hs : slots ≤ R.slots) {x y : Int32} (hdg : decode cc pc = .ok (.invokestatic index, 3))
    (kk : W p l e R s m args below meth c H locs cells slots Q (F0 m (pc + 3) ls (.int (maxI x y) :: rest))) : W p l e R s m args below meth c H locs cells slots Q (F0 m pc ls (.int y :: .int x :: rest)) := va_mmax hexec hb hml hown hlink hstat hini hcode hframes hlocals hc hs hdg kk
theorem h_abs {p : Program} {l : Launch} {e : Env} {R : Room} {s : State} {m : MethodId} {args : Array Value} {below : List Frame} {meth : Method} {c : Code} {H : Heap} {locs : List Loc} {cells slots : Nat} {Q : State → Prop} {cc : ByteArray} {pc : Nat} {ls : Array Slot} {rest : List Value} (hexec : p.tables.exec = Jvm.exec) (hb : c.code = cc) (hml : c.maxLocals = ls.size) {own : String} {index : Nat} (hown : s.vm.findClass own = some m.cls) (hlink : (Cond.methodLink own index Lib.Math.abs.name).before args s = true) (hstat : (Cond.static Lib.Math.abs.name).before args s = true) (hini : (Cond.initialized "java/lang/Math").before args s = true) (hcode : (Cond.code Lib.Math.abs.name Lib.Math.abs.code 1 (some .int)).before args s = true)
    (hframes : 1 ≤ R.frames) (hlocals : (rest.map fun v => v.category).sum + 13 ≤ R.locals) (hc : cells ≤ R.cells) (hs : slots ≤ R.slots) {x : Int32} (hdg : decode cc pc = .ok (.invokestatic index, 3))
    (kk : W p l e R s m args below meth c H locs cells slots Q (F0 m (pc + 3) ls (.int (absI x) :: rest))) : W p l e R s m args below meth c H locs cells slots Q (F0 m pc ls (.int x :: rest)) := va_mabs hexec hb hml hown hlink hstat hini hcode hframes hlocals hc hs hdg kk
