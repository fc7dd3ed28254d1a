/-! The fresh world: what the constructors leave. -/
def TY (A : Nat → ClassId) : List (ClassId × FieldType) := [(A 0, .int), (A 1, .boolean), (A 2, .object RX1), (A 3, .object RX0), (A 4, .long)]
theorem RA_fc {U : State} {cA : ClassId} {ty : FieldType} (h : va_RA U cA ty) : U.vm.findClass ("[" ++ ty.toString) = some cA := by
  cases ty with
  | object C => obtain ⟨_, _, _, _, _, h⟩ := h; exact h
  | _ => exact h
theorem K_uniq {D : va_G} {cl : List vw_C} {tys : List (ClassId × FieldType)} {U : State} {c1 c2 : ClassId} {ty : FieldType} (hK : va_K D cl tys U) (i j : Nat) (h1 : tys[i]? = some (c1, ty)) (h2 : tys[j]? = some (c2, ty)) : c1 = c2 :=
  Option.some.inj ((RA_fc (hK.2 i _ h1).2).symm.trans (RA_fc (hK.2 j _ h2).2))
abbrev zI (A : Nat → ClassId) (n : Nat) : va_E := .inl (A 0, n, .inl (fun _ => 0))
abbrev zZ (A : Nat → ClassId) (n : Nat) : va_E := .inl (A 1, n, .inl (fun _ => 0))
abbrev zL (A : Nat → ClassId) : va_E := .inl (A 4, 1, .inr (.inl (fun _ => 0)))
abbrev zQ (A : Nat → ClassId) (t n : Nat) (f : Nat → Option Nat) : va_E := .inl (A t, n, .inr (.inr (.inr (.inr f))))
abbrev zG0 : va_E := .inr (0, [.int 0, .int 0, .int 0, .int 0, .int 0, .int 0, .int 0, .int 0, .int 0])
abbrev zR (u v : Nat) : va_E := .inr (1, [.ref u, .ref v, .int 0])
section FR
variable {p : Program} {l : Launch} {e : Env} {R : Room} {s : State} {m : MethodId} {args : Array Value} {below : List Frame} {meth : Method} {c : Code} {H H0 : Heap} {locs : List Loc} {cells slots : Nat} {Q : State → Prop} {cc : ByteArray} {pc : Nat} {ls : Array Slot} {rest : List Value} {D : va_G} {A : Nat → ClassId} {B : Nat → Prop} {ws : va_W}
theorem n_newI (hx : p.tables.exec = Jvm.exec) (hb : c.code = cc) (harr : (Cond.arrayClass .int).before args s = true) (hK : va_K D vwCl (TY A) s) (hP : va_P D vwCl ws H) (hD : va_D B ws) (hS : va_S B H0 H locs) (hA : ∀ q, H0.size ≤ q → B q) {n : Int32} {N : Nat} (hn : ¬ n < 0) (hN : n.toNatClampNeg = N) (hby : N * 4 ≤ 536870912) (h1 : cells + 1 ≤ R.cells) (h2 : slots + N ≤ R.slots) (hdg : decode cc pc = .ok (.newarray .int, 2))
    (kk : ∀ (q : Nat) (H1 : Heap), va_P D vwCl (ws ++ [(q, zI A N)]) H1 → va_D B (ws ++ [(q, zI A N)]) → va_S B H0 H1 locs → W p l e R s m args below meth c H1 locs (cells + 1) (slots + N) Q (F0 m (pc + 2) ls (.ref q :: rest))) : W p l e R s m args below meth c H locs cells slots Q (F0 m pc ls (.int n :: rest)) :=
  va_newa (atype := .int) hx hb harr (ty := .int) rfl hK hP hD hS hA (N' := N) (a0 := (N, .inl (fun _ => 0))) (fun _ => rfl) hn hN hby h1 h2 hdg (fun q cA H1 hK1 hP1 hD1 hS1 => by
    have e : cA = A 0 := K_uniq hK1 5 0 rfl rfl
    subst e
    exact kk q H1 hP1 hD1 hS1)
theorem n_newZ (hx : p.tables.exec = Jvm.exec) (hb : c.code = cc) (harr : (Cond.arrayClass .boolean).before args s = true) (hK : va_K D vwCl (TY A) s) (hP : va_P D vwCl ws H) (hD : va_D B ws) (hS : va_S B H0 H locs) (hA : ∀ q, H0.size ≤ q → B q) {n : Int32} {N : Nat} (hn : ¬ n < 0) (hN : n.toNatClampNeg = N) (hby : N * 1 ≤ 536870912) (h1 : cells + 1 ≤ R.cells) (h2 : slots + N ≤ R.slots) (hdg : decode cc pc = .ok (.newarray .boolean, 2))
    (kk : ∀ (q : Nat) (H1 : Heap), va_P D vwCl (ws ++ [(q, zZ A N)]) H1 → va_D B (ws ++ [(q, zZ A N)]) → va_S B H0 H1 locs → W p l e R s m args below meth c H1 locs (cells + 1) (slots + N) Q (F0 m (pc + 2) ls (.ref q :: rest))) : W p l e R s m args below meth c H locs cells slots Q (F0 m pc ls (.int n :: rest)) :=
  va_newa (atype := .boolean) hx hb harr (ty := .boolean) rfl hK hP hD hS hA (N' := N) (a0 := (N, .inl (fun _ => 0))) (fun _ => rfl) hn hN hby h1 h2 hdg (fun q cA H1 hK1 hP1 hD1 hS1 => by
    have e : cA = A 1 := K_uniq hK1 5 1 rfl rfl
    subst e
    exact kk q H1 hP1 hD1 hS1)
theorem n_newL (hx : p.tables.exec = Jvm.exec) (hb : c.code = cc) (harr : (Cond.arrayClass .long).before args s = true) (hK : va_K D vwCl (TY A) s) (hP : va_P D vwCl ws H) (hD : va_D B ws) (hS : va_S B H0 H locs) (hA : ∀ q, H0.size ≤ q → B q) (h1 : cells + 1 ≤ R.cells) (h2 : slots + 1 ≤ R.slots) (hdg : decode cc pc = .ok (.newarray .long, 2))
    (kk : ∀ (q : Nat) (H1 : Heap), va_P D vwCl (ws ++ [(q, zL A)]) H1 → va_D B (ws ++ [(q, zL A)]) → va_S B H0 H1 locs → W p l e R s m args below meth c H1 locs (cells + 1) (slots + 1) Q (F0 m (pc + 2) ls (.ref q :: rest))) : W p l e R s m args below meth c H locs cells slots Q (F0 m pc ls (.int 1 :: rest)) :=
  va_newa (atype := .long) hx hb harr (ty := .long) rfl hK hP hD hS hA (N' := 1) (a0 := (1, .inr (.inl (fun _ => 0)))) (fun _ => rfl) (by decide) (by decide) (by decide) h1 h2 hdg (fun q cA H1 hK1 hP1 hD1 hS1 => by
    have e : cA = A 4 := K_uniq hK1 5 4 rfl rfl
    subst e
    exact kk q H1 hP1 hD1 hS1)
theorem n_newQ {C own : String} {index t : Nat} (hx : p.tables.exec = Jvm.exec) (hb : c.code = cc) (hown : s.vm.findClass own = some m.cls) (hcl : (Cond.classLink own index C).before args s = true) (ho : va_AO C s) (ht : (TY A)[t]? = some (A t, .object C)) (hK : va_K D vwCl (TY A) s) (hP : va_P D vwCl ws H) (hD : va_D B ws) (hS : va_S B H0 H locs) (hA : ∀ q, H0.size ≤ q → B q) {n : Int32} {N : Nat} (hn : ¬ n < 0) (hN : n.toNatClampNeg = N) (hby : N * 4 ≤ 536870912) (h1 : cells + 1 ≤ R.cells) (h2 : slots + N ≤ R.slots) (hdg : decode cc pc = .ok (.anewarray index, 3))
    (kk : ∀ (q : Nat) (H1 : Heap), va_P D vwCl (ws ++ [(q, zQ A t N (fun _ => none))]) H1 → va_D B (ws ++ [(q, zQ A t N (fun _ => none))]) → va_S B H0 H1 locs → W p l e R s m args below meth c H1 locs (cells + 1) (slots + N) Q (F0 m (pc + 3) ls (.ref q :: rest))) : W p l e R s m args below meth c H locs cells slots Q (F0 m pc ls (.int n :: rest)) :=
  va_newq hx hb hown hcl ho hK hP hD hS hA hn hN hby h1 h2 hdg (fun q cA H1 hK1 hP1 hD1 hS1 => by
    have ht1 : (TY A ++ [(cA, FieldType.object C)])[t]? = some (A t, .object C) := by rw [List.getElem?_append_left (List.getElem?_eq_some_iff.mp ht).1]; exact ht
    have e : cA = A t := K_uniq hK1 5 t rfl ht1
    subst e
    exact kk q H1 hP1 hD1 hS1)
theorem arrV_ext {cA : ClassId} {n : Nat} {f g : Nat → Value} (h : ∀ j, j < n → f j = g j) : arrV cA n f = arrV cA n g := by
  unfold arrV
  have e : (fun j : Fin n => f j.val) = (fun j : Fin n => g j.val) := funext fun j => h j.val j.isLt
  rw [e]
theorem P_setq (hP : va_P D vwCl ws H) (k : Nat) {q : Nat} {cA : ClassId} {n : Nat} {f : Nat → Option Nat} (g : Nat → Option Nat) (hk : ws[k]? = some (q, .inl (cA, n, .inr (.inr (.inr (.inr f)))))) (h : ∀ j, j < n → f j = g j) : va_P D vwCl (ws.set k (q, .inl (cA, n, .inr (.inr (.inr (.inr g)))))) H := by
  intro i r hi
  by_cases hik : i = k
  · subst hik
    rw [List.getElem?_set_self (List.getElem?_eq_some_iff.mp hk).1] at hi
    cases hi
    have h0 : H[q]? = some (vp_cell cA (n, .inr (.inr (.inr (.inr f))))) := hP i _ hk
    show H[q]? = some (vp_cell cA (n, .inr (.inr (.inr (.inr g)))))
    rw [h0, vp_cell_q, vp_cell_q, arrV_ext (fun j hj => by rw [h j hj])]
  · rw [List.getElem?_set_ne (Ne.symm hik)] at hi
    exact hP i r hi
theorem D_setq {k q : Nat} {z z' : va_E} (hD : va_D B ws) (hk : ws[k]? = some (q, z)) : va_D B (ws.set k (q, z')) := hD.set hk
end FR
theorem AO_warm {s U : State} {C : String} (hW : s.WarmedH U.vm) (h : va_AO C s) : va_AO C U := va_AO.moved hW.alike h
def wR (A : Nat → ClassId) (a : Nat) (u : Nat → Nat) : va_W := [(a, zR (u 0) (u 1)), (u 0, zI A 8), (u 1, zI A 8)]
