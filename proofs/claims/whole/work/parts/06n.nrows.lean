/-! ===== constructors: worlds that grow, told as lists ===== -/
def n_AOA (ty : FieldType) (U : State) : Prop := (Cond.arrayOver (.array ty)).before #[] U = true
theorem n_AOA.use {ty : FieldType} {B : Array Value} {U : State} (h : n_AOA ty U) : (Cond.arrayOver (.array ty)).before B U = true := h
theorem n_AOA.moved {ty : FieldType} {u U : State} (hvm : u.vm.Alike U.vm) (h : n_AOA ty u) : n_AOA ty U := Jvm.Stand.arrayOver_alikeB (s := u) hvm h
theorem n_outer (c : ClassId) (N h0 : Nat) : ∀ i : Nat, Jvm.Free.Multi.outerC c N h0 i = arrV c N (fun j => va_rf (if j < i then some (h0 + 1 + j) else none))
  | 0 => by
    show ({ cls := c, slots := Array.replicate N .null, vm := .none } : Cell) = _
    rw [arrV_new]
    refine congrArg (arrV c N) (funext fun j => ?_)
    simp [va_rf]
  | i + 1 => by
    show (Jvm.Free.Multi.outerC c N h0 i).setSlot i (.ref (h0 + 1 + i)) = _
    rw [n_outer c N h0 i, arrV_store]
    refine congrArg (arrV c N) (funext fun j => ?_)
    by_cases e : j = i
    · subst e
      simp [updV, va_rf]
    · by_cases h : j < i
      · simp [updV, e, h, Nat.lt_succ_of_lt h]
      · simp [updV, e, h, show ¬ j < i + 1 by omega]
theorem n_cellq {c : ClassId} {n : Nat} {f g : Nat → Option Nat} (h : ∀ j, j < n → f j = g j) : vp_cell c (n, .inr (.inr (.inr (.inr f)))) = vp_cell c (n, .inr (.inr (.inr (.inr g)))) := by
  rw [vp_cell_q, vp_cell_q]
  unfold arrV
  congr 1
  apply Array.ext
  · simp
  · intro i h1 h2
    have hi : i < n := by simpa using h1
    simp [h i hi]
abbrev n_P (D : va_G) (cl : List vw_C) (ws : va_W) : Heap → Prop := fun H => va_P D cl ws H
section NI
variable {p : Program} {l : Launch} {e : Env} {R : Room} {s : State} {m : MethodId} {args : Array Value} {below : List Frame} {meth : Method} {c : Code} {cells slots : Nat} {Q : State → Prop}
variable {cc : ByteArray} {nL : Nat} {Ts : List Cond} {own : String} {A : Nat → Prop} {I : Heap → Prop} {lv lv' : List (Nat × Value)} {st st0 : List Value} {pc : Nat}
variable {D : va_G} {cl : List vw_C} {tys : List (ClassId × FieldType)} {ws : va_W}
theorem n_objInit (B : x_B p s m args meth c cc nL Ts own) {idx : Nat} (hlink : Cond.methodLink own idx Lib.objectInit ∈ Ts) (hinst : Cond.instanceMethod Lib.objectInit ∈ Ts) (hcode : Cond.code Lib.objectInit ⟨#[0xb1]⟩ 1 none ∈ Ts) {a : Addr} (hdg : decode cc pc = .ok (.invokespecial idx, 3)) (hframes : 1 ≤ R.frames) (hlocals : (st.map fun v => v.category).sum + 12 ≤ R.locals) (k : x_J p l e R s m args below meth c cells slots Q A nL I lv st (pc + 3)) : x_J p l e R s m args below meth c cells slots Q A nL I lv (.ref a :: st) pc :=
  fun H locs ls h1 h2 h3 => W.objInit (a := a) (rest := st) B.1 B.2.1 B.2.2.2.1 (B.2.2.2.2.1 _ hlink) (B.2.2.2.2.1 _ hinst) (B.2.2.2.2.1 _ hcode) rfl (by rw [B.2.2.1]; exact h3.1) rfl hdg hframes (by show 2 * 0 + _ + 12 ≤ _; omega) (k H locs ls h1 h2 h3)
theorem n_newa (B : x_B p s m args meth c cc nL Ts own) (hK : va_K D cl tys s) {atype : ArrayType} {ty : FieldType} {t0 N' : Nat} {cI : ClassId} (hty : newarray.typeOf atype = ty) (harr : Cond.arrayClass ty ∈ Ts) (ht : tys[t0]? = some (cI, ty)) (hRA : ∀ c9 : ClassId, va_RA s c9 ty → s.vm.findClass ("[" ++ ty.toString) = some c9) (hA : ∀ q, s.heap.size ≤ q → A q) (hD : va_D A ws) {a0 : vp_A} (ha0 : ∀ cA : ClassId, vp_cell cA a0 = arrV cA N' (fun _ => defaultValue ty)) {n : Int32} (hn : ¬ n < 0) (hN : n.toNatClampNeg = N') (hb : N' * componentBytes ty ≤ 536870912) (hc : cells + 1 ≤ R.cells) (hs : slots + N' ≤ R.slots) (hdg : decode cc pc = .ok (.newarray atype, 2))
    (k : ∀ q : Nat, va_D A (ws ++ [(q, .inl (cI, a0))]) → x_J p l e R s m args below meth c (cells + 1) (slots + N') Q A nL (n_P D cl (ws ++ [(q, .inl (cI, a0))])) lv (.ref q :: st) (pc + 2)) : x_J p l e R s m args below meth c cells slots Q A nL (n_P D cl ws) lv (.int n :: st) pc := by
  intro H locs ls h1 h2 h3
  refine va_newa (D := D) (cl := cl) (tys := tys) (ws := ws) (A := A) (atype := atype) (ty := ty) B.1 B.2.1 (by rw [hty]; exact B.2.2.2.2.1 _ harr) hty hK h1 hD h2 hA ha0 hn hN hb hc hs hdg (fun q cA H1 hK1 hP1 hD1 hS1 => ?_)
  have e1 := hRA _ (hK1.2 tys.length (cA, ty) (by simp)).2
  have e2 := hRA _ (hK.2 t0 _ ht).2
  have e3 : cA = cI := Option.some.inj (e1.symm.trans e2)
  subst e3
  exact k q hD1 H1 locs ls hP1 hS1 h3
theorem n_new (B : x_B p s m args meth c cc nL Ts own) (hK : va_K D cl tys s) {Cn : String} {T : u_T} {n ci index : Nat} (hin : ∀ w ∈ u_ws Cn T n, w ∈ Ts) (ty : Nat → FieldType) (hty : ∀ k, k < n → parseFieldDescriptor (T k).2.2.1 = some (ty k)) (hcl : Cond.classLink own index Cn ∈ Ts) (hinst : Cond.instantiable Cn n ∈ Ts) (hini : Cond.initialized Cn ∈ Ts) (hA : ∀ q, s.heap.size ≤ q → A q) (hD : va_D A ws) (hc : cl[ci]? = some (Cn, T, n)) {fs : List Value} (hfs : ∀ j, j < n → defaultValue (ty j) = vp_V fs j) (hcells : cells + 1 ≤ R.cells) (hslots : slots + n ≤ R.slots) (hdg : decode cc pc = .ok (.new index, 3))
    (k : ∀ q : Nat, va_D A (ws ++ [(q, .inr (ci, fs))]) → x_J p l e R s m args below meth c (cells + 1) (slots + n) Q A nL (n_P D cl (ws ++ [(q, .inr (ci, fs))])) lv (.ref q :: st) (pc + 3)) : x_J p l e R s m args below meth c cells slots Q A nL (n_P D cl ws) lv st pc := by
  intro H locs ls h1 h2 h3
  exact va_new (D := D) (cl := cl) (tys := tys) (ws := ws) (A := A) (ci := ci) B.1 B.2.1 B.2.2.2.2.1 hin ty hty B.2.2.2.1 (B.2.2.2.2.1 _ hcl) (B.2.2.2.2.1 _ hinst) (B.2.2.2.2.1 _ hini) hK h1 hD h2 hA hc hfs hcells hslots hdg (fun q H1 hP1 hD1 hS1 => k q hD1 H1 locs ls hP1 hS1 h3)
theorem n_put (B : x_B p s m args meth c cc nL Ts own) (hK : va_K D cl tys s) {Cn : String} {T : u_T} {n ci index : Nat} (hin : ∀ w ∈ u_ws Cn T n, w ∈ Ts) (ty0 : Nat → FieldType) (hty : ∀ k, k < n → parseFieldDescriptor (T k).2.2.1 = some (ty0 k)) (hnm : ∀ a, a < n → ∀ b, b < n → a ≠ b → (T a).2.1 ≠ (T b).2.1) (hD : va_D A ws) (q0 : Nat) {a : Nat} {fs : List Value} (he : ws[q0]? = some (a, .inr (ci, fs))) (hc : cl[ci]? = some (Cn, T, n)) (j : Nat) (hj : j < n) (hlink : Cond.fieldLink own index (T j).1 (T j).2.1 (T j).2.2.1 ∈ Ts) (hfin : (T j).2.2.2 = false) {ty : FieldType} {v : Value} (hd : ty0 j = ty) (hn : narrow ty v = v) (hfit : fits ty v = true) (hlen : j < fs.length) {ws' : va_W} (hw : ws.set q0 (a, .inr (ci, fs.set j v)) = ws') (hdg : decode cc pc = .ok (.putfield index, 3))
    (k : va_D A ws' → x_J p l e R s m args below meth c cells slots Q A nL (n_P D cl ws') lv st (pc + 3)) : x_J p l e R s m args below meth c cells slots Q A nL (n_P D cl ws) lv (v :: .ref a :: st) pc := by
  intro H locs ls h1 h2 h3
  subst hw
  exact va_put (D := D) (cl := cl) (ws := ws) (ci := ci) (C := Cn) (T := T) (N := n) (A := A) B.1 B.2.1 B.2.2.2.2.1 hin ty0 hty hnm B.2.2.2.1 hK h1 hD h2 q0 he hc j hj (B.2.2.2.2.1 _ hlink) (fun _ h9 => h9) hfin (ty := ty) (by rw [hty j hj, hd]) hn hfit hlen hdg (fun H1 locs1 g1 gD g2 => k gD H1 locs1 ls g1 g2 h3)
theorem n_putF (B : x_B p s m args meth c cc nL Ts own) (hin2 : meth.name = "<init>") (hK : va_K D cl tys s) {Cn : String} {T : u_T} {n ci index : Nat} (hin : ∀ w ∈ u_ws Cn T n, w ∈ Ts) (ty0 : Nat → FieldType) (hty : ∀ k, k < n → parseFieldDescriptor (T k).2.2.1 = some (ty0 k)) (hnm : ∀ a, a < n → ∀ b, b < n → a ≠ b → (T a).2.1 ≠ (T b).2.1) (hD : va_D A ws) (q0 : Nat) {a : Nat} {fs : List Value} (he : ws[q0]? = some (a, .inr (ci, fs))) (hc : cl[ci]? = some (Cn, T, n)) (j : Nat) (hj : j < n) (hlink : Cond.fieldLink own index (T j).1 (T j).2.1 (T j).2.2.1 ∈ Ts) (hfin : (T j).2.2.2 = true) (hdecl : (T j).1 = own) {ty : FieldType} {v : Value} (hd : ty0 j = ty) (hn : narrow ty v = v) (hfit : fits ty v = true) (hlen : j < fs.length) {ws' : va_W} (hw : ws.set q0 (a, .inr (ci, fs.set j v)) = ws') (hdg : decode cc pc = .ok (.putfield index, 3))
    (k : va_D A ws' → x_J p l e R s m args below meth c cells slots Q A nL (n_P D cl ws') lv st (pc + 3)) : x_J p l e R s m args below meth c cells slots Q A nL (n_P D cl ws) lv (v :: .ref a :: st) pc := by
  intro H locs ls h1 h2 h3
  subst hw
  exact va_putF (D := D) (cl := cl) (ws := ws) (ci := ci) (C := Cn) (T := T) (N := n) (A := A) B.1 B.2.1 B.2.2.2.2.1 hin ty0 hty hnm B.2.2.2.1 hK h1 hD h2 q0 he hc j hj (B.2.2.2.2.1 _ hlink) (fun _ h9 => h9) hfin hin2 hdecl (ty := ty) (by rw [hty j hj, hd]) hn hfit hlen hdg (fun H1 locs1 g1 gD g2 => k gD H1 locs1 ls g1 g2 h3)
theorem n_iast (B : x_B p s m args meth c cc nL Ts own) (hK : va_K D cl tys s) (hD : va_D A ws) (q0 t0 : Nat) {a n : Nat} {cA : ClassId} {f : Nat → Int32} (ha : ws[q0]? = some (a, .inl (cA, n, .inl f))) (ht : tys[t0]? = some (cA, .int)) {i x : Int32} (hi : x_in i n) {ws' : va_W} (hw : ws.set q0 (a, .inl (cA, n, .inl (upd f i.toNatClampNeg x))) = ws') (hdg : decode cc pc = .ok (.iastore, 1))
    (k : va_D A ws' → x_J p l e R s m args below meth c cells slots Q A nL (n_P D cl ws') lv st (pc + 1)) : x_J p l e R s m args below meth c cells slots Q A nL (n_P D cl ws) lv (.int x :: .int i :: .ref a :: st) pc := by
  intro H locs ls h1 h2 h3
  subst hw
  exact va_iast (D := D) (cl := cl) (ws := ws) (A := A) B.1 B.2.1 hK h1 hD h2 q0 t0 ha ht hi hdg (fun H1 locs1 g1 gD g2 => k gD H1 locs1 ls g1 g2 h3)
theorem n_newq (B : x_B p s m args meth c cc nL Ts own) (hK : va_K D cl tys s) {Cn : String} {index t0 N' : Nat} {cC : ClassId} (hlink : Cond.classLink own index Cn ∈ Ts) (hover : va_AO Cn s) (ht : tys[t0]? = some (cC, .object Cn)) (hA : ∀ q, s.heap.size ≤ q → A q) (hD : va_D A ws) {n : Int32} (hn : ¬ n < 0) (hN : n.toNatClampNeg = N') (hb : N' * 4 ≤ 536870912) (hc : cells + 1 ≤ R.cells) (hs : slots + N' ≤ R.slots) (hdg : decode cc pc = .ok (.anewarray index, 3))
    (k : ∀ q : Nat, va_D A (ws ++ [(q, .inl (cC, N', .inr (.inr (.inr (.inr (fun _ => none))))))]) → x_J p l e R s m args below meth c (cells + 1) (slots + N') Q A nL (n_P D cl (ws ++ [(q, .inl (cC, N', .inr (.inr (.inr (.inr (fun _ => none))))))])) lv (.ref q :: st) (pc + 3)) : x_J p l e R s m args below meth c cells slots Q A nL (n_P D cl ws) lv (.int n :: st) pc := by
  intro H locs ls h1 h2 h3
  refine va_newq (D := D) (cl := cl) (tys := tys) (ws := ws) (A := A) B.1 B.2.1 B.2.2.2.1 (B.2.2.2.2.1 _ hlink) hover hK h1 hD h2 hA hn hN hb hc hs hdg (fun q cA H1 hK1 hP1 hD1 hS1 => ?_)
  obtain ⟨_, _, _, _, _, e1⟩ := (hK1.2 tys.length (cA, .object Cn) (by simp)).2
  obtain ⟨_, _, _, _, _, e2⟩ := (hK.2 t0 _ ht).2
  have e3 : cA = cC := Option.some.inj (e1.symm.trans e2)
  subst e3
  exact k q hD1 H1 locs ls hP1 hS1 h3
theorem n_astq (B : x_B p s m args meth c cc nL Ts own) (hK : va_K D cl tys s) (hD : va_D A ws) (q0 t0 qk ci : Nat) {a v n : Nat} {cA : ClassId} {r : vw_C} {vs : List Value} {f : Nat → Option Nat} (ha : ws[q0]? = some (a, .inl (cA, n, .inr (.inr (.inr (.inr f)))))) (ht : tys[t0]? = some (cA, .object r.1)) (hv : ws[qk]? = some (v, .inr (ci, vs))) (hc : cl[ci]? = some r) {i : Int32} (hi : x_in i n) {ws' : va_W} (hw : ws.set q0 (a, .inl (cA, n, .inr (.inr (.inr (.inr (va_up f i.toNatClampNeg (some v))))))) = ws') (hdg : decode cc pc = .ok (.aastore, 1))
    (k : va_D A ws' → x_J p l e R s m args below meth c cells slots Q A nL (n_P D cl ws') lv st (pc + 1)) : x_J p l e R s m args below meth c cells slots Q A nL (n_P D cl ws) lv (.ref v :: .int i :: .ref a :: st) pc := by
  intro H locs ls h1 h2 h3
  subst hw
  exact va_astq (D := D) (cl := cl) (ws := ws) (A := A) B.1 B.2.1 hK h1 hD h2 q0 t0 qk ci ha ht hv hc hi hdg (fun H1 locs1 g1 gD g2 => k gD H1 locs1 ls g1 g2 h3)
/-- new int[N'][K'] : the outer array at q, the inner ones behind it -/
theorem n_mna (B : x_B p s m args meth c cc nL Ts own) (hK : va_K D cl tys s) {index t0 t1 N' K' : Nat} {cI cQ : ClassId} (hlink : Cond.classLink own index "[[I" ∈ Ts) (hover : n_AOA .int s) (harr : Cond.arrayClass .int ∈ Ts) (ht0 : tys[t0]? = some (cI, .int)) (ht1 : tys[t1]? = some (cQ, .array .int)) (hA : ∀ q, s.heap.size ≤ q → A q) (hD : va_D A ws) {n k0 : Int32} (hn : ¬ n < 0) (hk : ¬ k0 < 0) (hN : n.toNatClampNeg = N') (hM : k0.toNatClampNeg = K') (hb1 : N' * 4 ≤ 536870912) (hb2 : K' * 4 ≤ 536870912) (hc : cells + (1 + N') ≤ R.cells) (hs : slots + (N' + N' * K') ≤ R.slots) (hdg : decode cc pc = .ok (.multianewarray index 2, 4))
    (k : ∀ q : Nat, va_D A ((ws ++ [(q, .inl (cQ, N', .inr (.inr (.inr (.inr (fun j => some (q + 1 + j)))))))]) ++ (List.range N').map (fun j => (q + 1 + j, .inl (cI, K', .inl (fun _ => 0))))) → x_J p l e R s m args below meth c (cells + 1 + N') (slots + N' + N' * K') Q A nL (n_P D cl ((ws ++ [(q, .inl (cQ, N', .inr (.inr (.inr (.inr (fun j => some (q + 1 + j)))))))]) ++ (List.range N').map (fun j => (q + 1 + j, .inl (cI, K', .inl (fun _ => 0)))))) lv (.ref q :: st) (pc + 4)) : x_J p l e R s m args below meth c cells slots Q A nL (n_P D cl ws) lv (.int k0 :: .int n :: st) pc := by
  intro H locs ls h1 h2 h3
  subst hN
  subst hM
  have hP : va_P D cl ws H := h1
  intro T hT Xs
  obtain ⟨vm₁, cA, comp, -, fA, fC, hO, -, X', step⟩ := Xs.multianewarray2F B.1 B.2.2.2.1 (ty := .int) (B.2.2.2.2.1 _ hlink) (n_AOA.use hover) (B.2.2.2.2.1 _ harr) (g := F0 m pc ls (.int k0 :: .int n :: st)) rfl (by rw [B.2.1]; exact hdg) rfl hn hk hb1 hb2 (by omega) rfl rfl hc hs
  have e1 : s.vm.findClass "[I" = some cI := (hK.2 t0 _ ht0).2
  have e2 : s.vm.findClass "[[I" = some cQ := (hK.2 t1 _ ht1).2
  have ec : comp = cI := Option.some.inj (fC.symm.trans e1)
  have eq : cA = cQ := Option.some.inj (fA.symm.trans e2)
  subst ec
  subst eq
  generalize hF : Jvm.Free.Multi.fill (T.setVm vm₁) cA comp n.toNatClampNeg k0.toNatClampNeg (defaultValue .int) n.toNatClampNeg = F at X' step
  have hTh : (T.setVm vm₁).heap = H := hT
  obtain ⟨f1, f2, -, -⟩ := Jvm.Free.Multi.fill_facts (T.setVm vm₁) cA comp n.toNatClampNeg k0.toNatClampNeg (defaultValue .int) n.toNatClampNeg
  rw [hF, hTh] at f1 f2
  have hold : ∀ x : Nat, x < H.size → F.heap[x]? = H[x]? := fun x hx => by
    have := Jvm.Free.Multi.fill_old (T.setVm vm₁) cA comp n.toNatClampNeg k0.toNatClampNeg (defaultValue .int) (a := x) (by rw [hTh]; exact hx) n.toNatClampNeg
    rw [hF, hTh] at this
    exact this
  have hrow : ∀ j : Nat, j < n.toNatClampNeg → F.heap[H.size + 1 + j]? = some (vp_cell comp (k0.toNatClampNeg, .inl (fun _ => 0))) := fun j hj => by
    have := Jvm.Free.Multi.fill_inner (T.setVm vm₁) cA comp n.toNatClampNeg k0.toNatClampNeg (defaultValue .int) n.toNatClampNeg j hj
    rw [hF, hTh] at this
    rw [this, vp_cell_i, ← arrV_new]
    rfl
  have hout : Jvm.Free.Multi.outerC cA n.toNatClampNeg H.size n.toNatClampNeg = vp_cell cA (n.toNatClampNeg, .inr (.inr (.inr (.inr (fun j => some (H.size + 1 + j)))))) := by
    rw [n_outer cA n.toNatClampNeg H.size n.toNatClampNeg, ← vp_cell_q cA n.toNatClampNeg (fun j => if j < n.toNatClampNeg then some (H.size + 1 + j) else none)]
    exact n_cellq (fun j hj => if_pos hj)
  rw [hout] at f2
  have hW : ∀ (k9 : Nat) (x : Nat × va_E), ((ws ++ [(H.size, .inl (cA, n.toNatClampNeg, .inr (.inr (.inr (.inr (fun j => some (H.size + 1 + j)))))))]) ++ (List.range n.toNatClampNeg).map (fun j => (H.size + 1 + j, .inl (comp, k0.toNatClampNeg, .inl (fun _ => 0)))))[k9]? = some x → (ws[k9]? = some x ∧ k9 < ws.length) ∨ (ws.length ≤ k9 ∧ x.1 = H.size + (k9 - ws.length) ∧ va_at D cl x F.heap) := by
    intro k9 x hx
    rw [List.append_assoc] at hx
    rcases Nat.lt_or_ge k9 ws.length with q | q
    · rw [List.getElem?_append_left q] at hx
      exact Or.inl ⟨hx, q⟩
    · rw [List.getElem?_append_right q] at hx
      refine Or.inr ⟨q, ?_⟩
      cases hz : k9 - ws.length with
      | zero =>
        rw [hz] at hx
        have hx : some (H.size, (.inl (cA, n.toNatClampNeg, .inr (.inr (.inr (.inr (fun j => some (H.size + 1 + j)))))) : va_E)) = some x := hx
        cases hx
        exact ⟨rfl, f2⟩
      | succ j =>
        rw [hz] at hx
        have hx : ((List.range n.toNatClampNeg).map (fun j => ((H.size + 1 + j, .inl (comp, k0.toNatClampNeg, .inl (fun _ => 0))) : Nat × va_E)))[j]? = some x := hx
        rw [List.getElem?_map] at hx
        rcases Nat.lt_or_ge j n.toNatClampNeg with q2 | q2
        · rw [List.getElem?_range q2] at hx
          cases hx
          exact ⟨by show H.size + 1 + j = _; omega, hrow j q2⟩
        · rw [List.getElem?_eq_none (by rw [List.length_range]; exact q2)] at hx
          cases hx
  obtain ⟨t, a1, b1⟩ := k H.size ⟨fun i j x y hx hy hxy => by
      rcases hW i x hx with ⟨g1, l1⟩ | ⟨l1, g1, -⟩ <;> rcases hW j y hy with ⟨g2, l2⟩ | ⟨l2, g2, -⟩
      · exact hD.1 i j x y g1 g2 hxy
      · have := (hP i x g1).lt; omega
      · have := (hP j y g2).lt; omega
      · omega, fun k9 x hx => by
      rcases hW k9 x hx with ⟨g1, l1⟩ | ⟨l1, g1, -⟩
      · exact hD.2 k9 x g1
      · exact hA _ (by have := h2.1; omega)⟩ F.heap locs ls (fun k9 x hx => by
      rcases hW k9 x hx with ⟨g1, l1⟩ | ⟨l1, g1, g3⟩
      · exact (hP k9 x g1).kept (hold x.1 ((hP k9 x g1).lt))
      · exact g3) ⟨by rw [f1]; have := h2.1; omega, fun x g1 g2 => (hold x (Nat.lt_of_lt_of_le g1 h2.1)).trans (h2.2.1 x g1 g2), h2.2.2⟩ h3 F rfl X'
  refine ⟨t, step t ?_, b1⟩
  have e : T.heap.size = H.size := by rw [hT]
  rw [e]
  exact a1
/-- a constructor of a nest mate is called: its cell stands last -/
theorem n_callN (B : x_B p s m args meth c cc nL Ts own) (hK : va_K D cl tys s) (hA : ∀ q, s.heap.size ≤ q → A q) {NW : x_Nt} (hNW : x_NwOk NW ∧ NW s) {y : MethodName} {wsy : List Cond} {host : String} {bytes : ByteArray} {maxL index mc ms h0 nr : Nat} {rm : Room} {e0 : va_E} {wr : va_W} {post : (Nat → Nat) → va_W}
    (hM : ∀ sz : Nat, Met l y wsy rm (va_Pc [.ref h0] (fun U => U.heap.size = sz ∧ va_P D cl [(h0, e0)] U.heap ∧ va_K D cl tys U ∧ NW U)) (va_Qv (fun _ : Nat → Nat => True) (fun u t => va_P D cl (post u) t.heap ∧ va_D (va_A [(h0, e0)] sz) (post u)) (va_A [(h0, e0)] sz)) mc ms (va_A [(h0, e0)] sz))
    (cw : va_CN R s args own index y host bytes maxL none wsy rm mc ms 0 ∧ y.name = "<init>" ∧ (Cond.instanceMethod y).before args s = true) (hD : va_D A ws) (hw : ws = wr ++ [(h0, e0)]) (hnr : nr = wr.length) (hR : (List.range nr).map (fun i => (wr ++ [(h0, e0)])[i]?) = wr.map some) (hnd : va_nd (List.range nr) = true) (hst : (st.map fun v => v.category).sum ≤ 8) (hcs : cells + mc ≤ R.cells ∧ slots + ms ≤ R.slots) (hdg : decode cc pc = .ok (.invokespecial index, 3))
    (k : ∀ u : Nat → Nat, va_D A (wr ++ post u) → x_J p l e R s m args below meth c (cells + mc) (slots + ms) Q A nL (n_P D cl (wr ++ post u)) lv st (pc + 3)) : x_J p l e R s m args below meth c cells slots Q A nL (n_P D cl ws) lv (.ref h0 :: st) pc := by
  intro H locs ls h1 h2 h3
  subst hw
  have hP : va_P D cl (wr ++ [(h0, e0)]) H := h1
  have hlast : (wr ++ [(h0, e0)])[wr.length]? = some (h0, e0) := by simp
  have hPc : va_P D cl [(h0, e0)] H := fun k9 q hq => by
    have hz : k9 < 1 := (List.getElem?_eq_some_iff.mp hq).1
    rw [show k9 = 0 by omega] at hq
    cases hq
    exact hP wr.length _ hlast
  have hFc : ∀ q, va_A [(h0, e0)] H.size q → A q := va_free (wc := [(h0, e0)]) hD h2 hA [wr.length] (by simp)
  refine va_callv (A0 := A) (va_runIN (As := []) (rest := st) ⟨B.1, B.2.1, B.2.2.1, B.2.2.2.1, B.2.2.2.2.1⟩ (hM H.size) cw ⟨?_, fun U hU hW => ⟨rfl, by rw [hU], by rw [hU]; exact hPc, va_K.moved hW.alike hK, hNW.1.1 s U hW hNW.2⟩⟩ rfl rfl h3.1 rfl (lv_room hst) hdg hcs) h2 (fun q _ h => hFc q h) hFc (fun u t H1 locs1 ht hvm hw hB hz1 hk1 hS => ?_)
  · intro a U g mk q
    obtain ⟨q0, q1, qP, qK, qN⟩ := q
    exact ⟨q0, q1, qP, va_K.moved (u := U) (U := U.calling g mk a) (Vm.Alike.refl U.vm) qK, hNW.1.2 U (U.calling g mk a) rfl qN⟩
  · obtain ⟨hP1, hD1⟩ := hB
    rw [ht] at hP1
    obtain ⟨hP2, hD2⟩ := va_join (wc := [(h0, e0)]) (wr := wr) (w1 := post u) hP hD [wr.length] (List.range nr) (by simp) hR hnd (fun i hi => by rw [hnr] at hi; have := List.mem_range.mp hi; simp; omega) hk1 hFc hP1 hD1
    exact k u hD2 H1 locs1 ls hP2 hS h3
theorem n_callI (B : x_B p s m args meth c cc nL Ts own) (hK : va_K D cl tys s) (hA : ∀ q, s.heap.size ≤ q → A q) {NW : x_Nt} (hNW : x_NwOk NW ∧ NW s) {y : MethodName} {wsy : List Cond} {bytes : ByteArray} {maxL index mc ms h0 nr : Nat} {rm : Room} {e0 : va_E} {wr : va_W} {post : (Nat → Nat) → va_W}
    (hM : ∀ sz : Nat, Met l y wsy rm (va_Pc [.ref h0] (fun U => U.heap.size = sz ∧ va_P D cl [(h0, e0)] U.heap ∧ va_K D cl tys U ∧ NW U)) (va_Qv (fun _ : Nat → Nat => True) (fun u t => va_P D cl (post u) t.heap ∧ va_D (va_A [(h0, e0)] sz) (post u)) (va_A [(h0, e0)] sz)) mc ms (va_A [(h0, e0)] sz))
    (cw : CallB R s args own index y bytes maxL none wsy rm mc ms 0 ∧ y.name = "<init>" ∧ (Cond.instanceMethod y).before args s = true) (hD : va_D A ws) (hw : ws = wr ++ [(h0, e0)]) (hnr : nr = wr.length) (hR : (List.range nr).map (fun i => (wr ++ [(h0, e0)])[i]?) = wr.map some) (hnd : va_nd (List.range nr) = true) (hst : (st.map fun v => v.category).sum ≤ 8) (hcs : cells + mc ≤ R.cells ∧ slots + ms ≤ R.slots) (hdg : decode cc pc = .ok (.invokespecial index, 3))
    (k : ∀ u : Nat → Nat, va_D A (wr ++ post u) → x_J p l e R s m args below meth c (cells + mc) (slots + ms) Q A nL (n_P D cl (wr ++ post u)) lv st (pc + 3)) : x_J p l e R s m args below meth c cells slots Q A nL (n_P D cl ws) lv (.ref h0 :: st) pc := by
  intro H locs ls h1 h2 h3
  subst hw
  have hP : va_P D cl (wr ++ [(h0, e0)]) H := h1
  have hlast : (wr ++ [(h0, e0)])[wr.length]? = some (h0, e0) := by simp
  have hPc : va_P D cl [(h0, e0)] H := fun k9 q hq => by
    have hz : k9 < 1 := (List.getElem?_eq_some_iff.mp hq).1
    rw [show k9 = 0 by omega] at hq
    cases hq
    exact hP wr.length _ hlast
  have hFc : ∀ q, va_A [(h0, e0)] H.size q → A q := va_free (wc := [(h0, e0)]) hD h2 hA [wr.length] (by simp)
  refine va_callv (A0 := A) (va_runI (As := []) (rest := st) ⟨B.1, B.2.1, B.2.2.1, B.2.2.2.1, B.2.2.2.2.1⟩ (hM H.size) cw ⟨?_, fun U hU hW => ⟨rfl, by rw [hU], by rw [hU]; exact hPc, va_K.moved hW.alike hK, hNW.1.1 s U hW hNW.2⟩⟩ rfl rfl h3.1 rfl (lv_room hst) hdg hcs) h2 (fun q _ h => hFc q h) hFc (fun u t H1 locs1 ht hvm hw hB hz1 hk1 hS => ?_)
  · intro a U g mk q
    obtain ⟨q0, q1, qP, qK, qN⟩ := q
    exact ⟨q0, q1, qP, va_K.moved (u := U) (U := U.calling g mk a) (Vm.Alike.refl U.vm) qK, hNW.1.2 U (U.calling g mk a) rfl qN⟩
  · obtain ⟨hP1, hD1⟩ := hB
    rw [ht] at hP1
    obtain ⟨hP2, hD2⟩ := va_join (wc := [(h0, e0)]) (wr := wr) (w1 := post u) hP hD [wr.length] (List.range nr) (by simp) hR hnd (fun i hi => by rw [hnr] at hi; have := List.mem_range.mp hi; simp; omega) hk1 hFc hP1 hD1
    exact k u hD2 H1 locs1 ls hP2 hS h3
/-- a constructor's end -/
theorem n_vret (B : x_B p s m args meth c cc nL Ts own) (hr : meth.sig.returnType = none) {post : (Nat → Nat) → va_W} {F : Nat → Prop} (u : Nat → Nat) (hw : ws = post u) (hD : va_D F ws) {mc ms : Nat} (hc : cells ≤ mc) (hs : slots ≤ ms) (hdg : decode cc pc = .ok (.return_, 1)) : x_J p l e R s m args below meth c cells slots (MQ below (va_Qv (fun _ : Nat → Nat => True) (fun u t => va_P D cl (post u) t.heap ∧ va_D F (post u)) F) args s mc ms F) F nL (n_P D cl ws) lv [] pc := by
  intro H locs ls h1 h2 h3
  subst hw
  refine W.widen hc hs ?_
  exact W.vret B.1 B.2.1 hr (fun t ht hW => ⟨⟨u, rfl, trivial, (by rw [ht]; exact h1), hD⟩, h2.F ht⟩) h2.2.2 hdg (hlocks := B.2.2.2.2.2)
/-- a constructor out of its body -/
theorem n_met {y : MethodName} {wsy ws' : List Cond} {maxL h0 mc ms sz : Nat} {rm : Room} {NW : x_Nt} {e0 : va_E} {post : (Nat → Nat) → va_W} (hy : plainName y.cls = true) (hw : wsy = Cond.code y cc maxL none :: ws') (ho : y.cls = own) (hn : y.name = "<init>") (hlen : (lg_sl [Value.ref h0]).length ≤ maxL)
    (body : ∀ (p : Program) (e : Env) (s : State) (m : MethodId) (args : Array Value) (below : List Frame) (meth : Method) (c : Code), x_B p s m args meth c cc maxL wsy own → va_K D cl tys s → NW s → meth.name = "<init>" → meth.sig.returnType = none → (∀ q, s.heap.size ≤ q → va_A [(h0, e0)] sz q) → va_D (va_A [(h0, e0)] sz) [(h0, e0)] → x_J p l e rm s m args below meth c 0 0 (MQ below (va_Qv (fun _ : Nat → Nat => True) (fun u t => va_P D cl (post u) t.heap ∧ va_D (va_A [(h0, e0)] sz) (post u)) (va_A [(h0, e0)] sz)) args s mc ms (va_A [(h0, e0)] sz)) (va_A [(h0, e0)] sz) maxL (n_P D cl [(h0, e0)]) [(0, .ref h0)] [] 0) : Met l y wsy rm (va_Pc [.ref h0] (fun U => U.heap.size = sz ∧ va_P D cl [(h0, e0)] U.heap ∧ va_K D cl tys U ∧ NW U)) (va_Qv (fun _ : Nat → Nat => True) (fun u t => va_P D cl (post u) t.heap ∧ va_D (va_A [(h0, e0)] sz) (post u)) (va_A [(h0, e0)] sz)) mc ms (va_A [(h0, e0)] sz) := by
  refine Met.ofW hy hw ?_
  intro p e s m args below meth c s₁ Bd hml hv
  obtain ⟨rfl, hsz, hP, hK, hNW⟩ := hv
  have hown : s.vm.findClass y.cls = some m.cls := findClass_of_methodNamed Bd.named
  rw [ho] at hown
  have hnm := (name_of_methodNamed Bd.named Bd.method).1
  have hl := lv_entry [Value.ref h0] (n := maxL) hlen
  rw [lg_entry_eq]
  refine body p e s m _ below meth c ⟨Bd.exec, Bd.bytes, hml, hown, atoms_spec (ws := wsy) Bd.pre, Bd.notSynchronized⟩ hK hNW (by first | exact hnm.trans hn | (rw [hnm]; exact hn) | (rw [← hnm]; exact hn)) Bd.returns (fun q h => Or.inr (by rw [← hsz]; exact h)) ⟨fun i j x y hx hy _ => by
      have hi : i < 1 := (List.getElem?_eq_some_iff.mp hx).1
      have hj : j < 1 := (List.getElem?_eq_some_iff.mp hy).1
      omega, fun k q hk => va_A.in hk⟩ s.heap [] _ hP va_S.rf hl
end NI
