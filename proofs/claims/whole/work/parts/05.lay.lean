/-- a state by a name -/
def x_w {β : Type} (u : x_S) (k : x_S → Option β) : Option β := k u
theorem x_ws {β : Type} {u : x_S} {k : x_S → Option β} {y : β} (h : x_w u k = some y) : ∃ w, w = u ∧ k w = some y := ⟨u, rfl, h⟩
/-! ===== words that change with what is warm: nest mates' private methods ===== -/
abbrev x_Nt : Type := State → Prop
def x_NwOk (NW : x_Nt) : Prop := (∀ u U : State, u.WarmedH U.vm → NW u → NW U) ∧ (∀ u U : State, u.vm = U.vm → NW u → NW U)
def x_H (s : State) (D : va_G) (cl : List vw_C) (tys : List (ClassId × FieldType)) (N : Nat) (ad : Nat → Nat) (A : Nat → Prop) (St : x_St) (NW : x_Nt) : Prop := x_G s D cl tys N ad A St ∧ x_NwOk NW ∧ NW s
def x_Pr2 (D : va_G) (cl : List vw_C) (tys : List (ClassId × FieldType)) (N : Nat) (C : x_C) (ad : Nat → Nat) (St : x_St) (NW : x_Nt) (σ : x_S) : State → Prop := fun U => x_Pre D cl tys N C ad St σ U ∧ NW U
abbrev x_NI (l : Launch) (y : MethodName) (ws : List Cond) (n : Nat) (D : va_G) (cl : List vw_C) (tys : List (ClassId × FieldType)) (N : Nat) (C : x_C) (ad : Nat → Nat) (St : x_St) (NW : x_Nt) (vs : List Value) (σ : x_S) (r0 : Int32) (σ0 : x_S) : Prop := Met l y ws (x_rm n) (va_Pc vs (x_Pr2 D cl tys N C ad St NW σ)) (x_Qi D cl N C ad r0 σ0) 0 0 (x_A N ad)
abbrev x_NV (l : Launch) (y : MethodName) (ws : List Cond) (n : Nat) (D : va_G) (cl : List vw_C) (tys : List (ClassId × FieldType)) (N : Nat) (C : x_C) (ad : Nat → Nat) (St : x_St) (NW : x_Nt) (vs : List Value) (σ : x_S) (σ0 : x_S) : Prop := Met l y ws (x_rm n) (va_Pc vs (x_Pr2 D cl tys N C ad St NW σ)) (x_Qv D cl N C ad σ0) 0 0 (x_A N ad)
theorem x_blind2 (vs : List Value) {D : va_G} {cl : List vw_C} {tys : List (ClassId × FieldType)} {N : Nat} {C : x_C} {ad : Nat → Nat} {St : x_St} {NW : x_Nt} (hSt : x_StOk St) (hN : x_NwOk NW) (σ : x_S) : FrameBlind (va_Pc vs (x_Pr2 D cl tys N C ad St NW σ)) := by
  intro a U g mk q
  obtain ⟨q0, ⟨qP, qK, qS⟩, qN⟩ := q
  exact ⟨q0, ⟨qP, va_K.moved (u := U) (U := U.calling g mk a) (Vm.Alike.refl U.vm) qK, hSt.1 _ U (U.calling g mk a) _ (Vm.Alike.refl U.vm) qS⟩, hN.2 U (U.calling g mk a) rfl qN⟩
/-! ===== calls and returns over the flat world ===== -/
section XC
variable {p : Program} {l : Launch} {e : Env} {R : Room} {s : State} {m : MethodId} {args : Array Value} {below : List Frame} {meth : Method} {c : Code} {cells slots : Nat} {Q : State → Prop}
variable {cc : ByteArray} {nL : Nat} {Ts : List Cond} {own : String} {A : Nat → Prop} {I : Heap → Prop} {lv lv' : List (Nat × Value)} {st st0 : List Value} {pc : Nat}
variable {D : va_G} {cl : List vw_C} {tys : List (ClassId × FieldType)} {N : Nat} {C : x_C} {ad : Nat → Nat} {St : x_St} {NW : x_Nt} {σ σ0 : x_S} {r0 : Int32}
theorem x_start (G : x_H s D cl tys N ad A St NW) {H : Heap} {locs : List Loc} (h1 : x_I D cl N C ad σ H) (h2 : va_S A s.heap H locs) {U : State} (hU : U.heap = H) (hW : s.WarmedH U.vm) : x_Pr2 D cl tys N C ad St NW σ U := by
  obtain ⟨⟨hK, -, hA, hSt, hst⟩, hN1, hN2⟩ := G
  refine ⟨⟨by rw [hU]; exact h1, va_K.moved hW.alike hK, ?_⟩, hN1.1 s U hW hN2⟩
  rw [hU]
  refine hSt.1 _ s U H hW.alike (hSt.2.2 A _ s H (fun q h => ?_) (hSt.2.1 A s s.heap H h2.2.1 hst))
  obtain ⟨k, hk, rfl⟩ := h
  exact hA k hk
theorem x_callV (B : x_B p s m args meth c cc nL Ts own) (G : x_H s D cl tys N ad A St NW) {y : MethodName} {ws : List Cond} {bytes : ByteArray} {maxL n index na kc ci nf : Nat} {ret : Option FieldType} {Cn : String} {T : u_T} {As : List Value} {fs : (Nat → Int32) → List Value}
    (hM : x_NI l y ws n D cl tys N C ad St NW (.ref (ad kc) :: As) σ r0 σ0) (cw : CallW R s args own Cn index y bytes maxL ret ws (x_rm n) 0 0 na) (hk : kc < N) (hC : ∀ r, C r kc = .inr (ci, fs r)) (hc : cl[ci]? = some (Cn, T, nf)) (hs : st0 = As.reverse ++ .ref (ad kc) :: st) (hn : As.length = na) (hst : (st.map fun v => v.category).sum ≤ 8) (hcs : cells ≤ R.cells ∧ slots ≤ R.slots) (hdg : decode cc pc = .ok (.invokevirtual index, 3))
    (k : x_J p l e R s m args below meth c cells slots Q A nL (x_I D cl N C ad σ0) lv (.int r0 :: st) (pc + 3)) : x_J p l e R s m args below meth c cells slots Q A nL (x_I D cl N C ad σ) lv st0 pc := by
  intro H locs ls h1 h2 h3
  subst hs
  have hsub : ∀ q, x_A N ad q → A q := fun q ⟨k, hk, e⟩ => by rw [e]; exact G.1.2.2.1 k hk
  refine va_calli (A0 := A) (va_runV (As := As) (rest := st) ⟨B.1, B.2.1, B.2.2.1, B.2.2.2.1, B.2.2.2.2.1⟩ hM cw ⟨x_blind2 _ G.1.2.2.2.1 G.2.1 σ, va_recv G.1.1 h1 hc (q0 := kc) (fs := fs (σ kc)) (by rw [x_l_at C ad σ hk, hC]), fun U hU hW => ⟨rfl, x_start G h1 h2 hU hW⟩⟩ rfl hn h3.1 rfl (lv_room hst) hdg hcs) h2 (fun q _ h => hsub q h) hsub (fun r u t H1 locs1 ht hvm hw hB _ _ hS => ?_)
  obtain ⟨rfl, rfl⟩ := hw
  have hB1 : x_I D cl N C ad u t.heap := hB
  rw [ht] at hB1
  exact k H1 locs1 ls hB1 hS h3
theorem x_callVv (B : x_B p s m args meth c cc nL Ts own) (G : x_H s D cl tys N ad A St NW) {y : MethodName} {ws : List Cond} {bytes : ByteArray} {maxL n index na kc ci nf : Nat} {ret : Option FieldType} {Cn : String} {T : u_T} {As : List Value} {fs : (Nat → Int32) → List Value}
    (hM : x_NV l y ws n D cl tys N C ad St NW (.ref (ad kc) :: As) σ σ0) (cw : CallW R s args own Cn index y bytes maxL ret ws (x_rm n) 0 0 na) (hk : kc < N) (hC : ∀ r, C r kc = .inr (ci, fs r)) (hc : cl[ci]? = some (Cn, T, nf)) (hs : st0 = As.reverse ++ .ref (ad kc) :: st) (hn : As.length = na) (hst : (st.map fun v => v.category).sum ≤ 8) (hcs : cells ≤ R.cells ∧ slots ≤ R.slots) (hdg : decode cc pc = .ok (.invokevirtual index, 3))
    (k : x_J p l e R s m args below meth c cells slots Q A nL (x_I D cl N C ad σ0) lv st (pc + 3)) : x_J p l e R s m args below meth c cells slots Q A nL (x_I D cl N C ad σ) lv st0 pc := by
  intro H locs ls h1 h2 h3
  subst hs
  have hsub : ∀ q, x_A N ad q → A q := fun q ⟨k, hk, e⟩ => by rw [e]; exact G.1.2.2.1 k hk
  refine va_callv (A0 := A) (va_runV (As := As) (rest := st) ⟨B.1, B.2.1, B.2.2.1, B.2.2.2.1, B.2.2.2.2.1⟩ hM cw ⟨x_blind2 _ G.1.2.2.2.1 G.2.1 σ, va_recv G.1.1 h1 hc (q0 := kc) (fs := fs (σ kc)) (by rw [x_l_at C ad σ hk, hC]), fun U hU hW => ⟨rfl, x_start G h1 h2 hU hW⟩⟩ rfl hn h3.1 rfl (lv_room hst) hdg hcs) h2 (fun q _ h => hsub q h) hsub (fun u t H1 locs1 ht hvm hw hB _ _ hS => ?_)
  have hB1 : x_I D cl N C ad u t.heap := hB
  rw [ht, show u = σ0 from hw] at hB1
  exact k H1 locs1 ls hB1 hS h3
theorem x_callS (B : x_B p s m args meth c cc nL Ts own) (G : x_H s D cl tys N ad A St NW) {y : MethodName} {ws : List Cond} {bytes : ByteArray} {maxL n index na : Nat} {ret : Option FieldType} {As : List Value}
    (hM : x_NI l y ws n D cl tys N C ad St NW As σ r0 σ0) (cw : CallB R s args own index y bytes maxL ret ws (x_rm n) 0 0 na ∧ (Cond.static y).before args s = true) (hs : st0 = As.reverse ++ st) (hn : As.length = na) (hst : (st.map fun v => v.category).sum ≤ 8) (hcs : cells ≤ R.cells ∧ slots ≤ R.slots) (hdg : decode cc pc = .ok (.invokestatic index, 3))
    (k : x_J p l e R s m args below meth c cells slots Q A nL (x_I D cl N C ad σ0) lv (.int r0 :: st) (pc + 3)) : x_J p l e R s m args below meth c cells slots Q A nL (x_I D cl N C ad σ) lv st0 pc := by
  intro H locs ls h1 h2 h3
  subst hs
  have hsub : ∀ q, x_A N ad q → A q := fun q ⟨k, hk, e⟩ => by rw [e]; exact G.1.2.2.1 k hk
  refine va_calli (A0 := A) (va_runS (As := As) (rest := st) ⟨B.1, B.2.1, B.2.2.1, B.2.2.2.1, B.2.2.2.2.1⟩ hM cw ⟨x_blind2 _ G.1.2.2.2.1 G.2.1 σ, fun U hU hW => ⟨rfl, x_start G h1 h2 hU hW⟩⟩ rfl hn h3.1 rfl (lv_room hst) hdg hcs) h2 (fun q _ h => hsub q h) hsub (fun r u t H1 locs1 ht hvm hw hB _ _ hS => ?_)
  obtain ⟨rfl, rfl⟩ := hw
  have hB1 : x_I D cl N C ad u t.heap := hB
  rw [ht] at hB1
  exact k H1 locs1 ls hB1 hS h3
theorem x_callSN (B : x_B p s m args meth c cc nL Ts own) (G : x_H s D cl tys N ad A St NW) {y : MethodName} {ws : List Cond} {host : String} {bytes : ByteArray} {maxL n index na : Nat} {ret : Option FieldType} {As : List Value}
    (hM : x_NI l y ws n D cl tys N C ad St NW As σ r0 σ0) (cw : va_CN R s args own index y host bytes maxL ret ws (x_rm n) 0 0 na ∧ (Cond.static y).before args s = true ∧ True) (hs : st0 = As.reverse ++ st) (hn : As.length = na) (hst : (st.map fun v => v.category).sum ≤ 8) (hcs : cells ≤ R.cells ∧ slots ≤ R.slots) (hdg : decode cc pc = .ok (.invokestatic index, 3))
    (k : x_J p l e R s m args below meth c cells slots Q A nL (x_I D cl N C ad σ0) lv (.int r0 :: st) (pc + 3)) : x_J p l e R s m args below meth c cells slots Q A nL (x_I D cl N C ad σ) lv st0 pc := by
  intro H locs ls h1 h2 h3
  subst hs
  have hsub : ∀ q, x_A N ad q → A q := fun q ⟨k, hk, e⟩ => by rw [e]; exact G.1.2.2.1 k hk
  refine va_calli (A0 := A) (va_runSN (As := As) (rest := st) ⟨B.1, B.2.1, B.2.2.1, B.2.2.2.1, B.2.2.2.2.1⟩ hM cw ⟨x_blind2 _ G.1.2.2.2.1 G.2.1 σ, fun U hU hW => ⟨rfl, x_start G h1 h2 hU hW⟩⟩ rfl hn h3.1 rfl (lv_room hst) hdg hcs) h2 (fun q _ h => hsub q h) hsub (fun r u t H1 locs1 ht hvm hw hB _ _ hS => ?_)
  obtain ⟨rfl, rfl⟩ := hw
  have hB1 : x_I D cl N C ad u t.heap := hB
  rw [ht] at hB1
  exact k H1 locs1 ls hB1 hS h3
theorem x_nm {σ1 σ2 : x_S} (e1 : σ1 = σ2) (k : x_J p l e R s m args below meth c cells slots Q A nL (x_I D cl N C ad σ1) lv st pc) : x_J p l e R s m args below meth c cells slots Q A nL (x_I D cl N C ad σ2) lv st pc := e1 ▸ k
/-- ends -/
theorem x_iret (B : x_B p s m args meth c cc nL Ts own) (hr : meth.sig.returnType = some .int) (hdg : decode cc pc = .ok (.ireturn, 1)) : x_J p l e R s m args below meth c cells slots (MQ below (x_Qi D cl N C ad r0 σ0) args s cells slots (x_A N ad)) (x_A N ad) nL (x_I D cl N C ad σ0) lv [.int r0] pc :=
  fun H locs ls h1 h2 h3 => W.iret (v := r0) B.1 B.2.1 hr (fun t ht hW => ⟨⟨r0, σ0, rfl, ⟨rfl, rfl⟩, (show x_I D cl N C ad σ0 t.heap by rw [ht]; exact h1)⟩, h2.F ht⟩) h2.2.2 hdg (hlocks := B.2.2.2.2.2)
theorem x_zret (B : x_B p s m args meth c cc nL Ts own) (hr : meth.sig.returnType = some .boolean) (hz : r0 &&& 1 = r0) (hdg : decode cc pc = .ok (.ireturn, 1)) : x_J p l e R s m args below meth c cells slots (MQ below (x_Qi D cl N C ad r0 σ0) args s cells slots (x_A N ad)) (x_A N ad) nL (x_I D cl N C ad σ0) lv [.int r0] pc :=
  fun H locs ls h1 h2 h3 => W.zret (v := r0) (ty := .boolean) B.1 B.2.1 hr (show Value.int (r0 &&& 1) = .int r0 by rw [hz]) (fun t ht hW => ⟨⟨r0, σ0, rfl, ⟨rfl, rfl⟩, (show x_I D cl N C ad σ0 t.heap by rw [ht]; exact h1)⟩, h2.F ht⟩) h2.2.2 hdg (hlocks := B.2.2.2.2.2)
theorem x_vret (B : x_B p s m args meth c cc nL Ts own) (hr : meth.sig.returnType = none) (hdg : decode cc pc = .ok (.return_, 1)) : x_J p l e R s m args below meth c cells slots (MQ below (x_Qv D cl N C ad σ0) args s cells slots (x_A N ad)) (x_A N ad) nL (x_I D cl N C ad σ0) lv [] pc :=
  fun H locs ls h1 h2 h3 => W.vret B.1 B.2.1 hr (fun t ht hW => ⟨⟨σ0, rfl, rfl, (show x_I D cl N C ad σ0 t.heap by rw [ht]; exact h1)⟩, h2.F ht⟩) h2.2.2 hdg (hlocks := B.2.2.2.2.2)
/-- a method out of its body -/
theorem x_met {y : MethodName} {ws ws' : List Cond} {maxL n : Nat} {ret : Option FieldType} {vs : List Value} {Qc : Array Value → State → Outcome → State → Prop} (hy : plainName y.cls = true) (hw : ws = Cond.code y cc maxL ret :: ws') (ho : y.cls = own) (hlen : (lg_sl vs).length ≤ maxL) (hdis : x_dis N ad) (hSt : x_StOk St) (hN : x_NwOk NW)
    (body : ∀ (p : Program) (e : Env) (s : State) (m : MethodId) (args : Array Value) (below : List Frame) (meth : Method) (c : Code), x_B p s m args meth c cc maxL ws own → x_H s D cl tys N ad (x_A N ad) St NW → meth.sig.returnType = ret → x_J p l e (x_rm n) s m args below meth c 0 0 (MQ below Qc args s 0 0 (x_A N ad)) (x_A N ad) maxL (x_I D cl N C ad σ) (lv_args 0 vs) [] 0) : Met l y ws (x_rm n) (va_Pc vs (x_Pr2 D cl tys N C ad St NW σ)) Qc 0 0 (x_A N ad) := by
  refine Met.ofW hy hw ?_
  intro p e s m args below meth c s₁ Bd hml hv
  obtain ⟨rfl, ⟨hP, hK, hS⟩, hn⟩ := hv
  have hown : s.vm.findClass y.cls = some m.cls := findClass_of_methodNamed Bd.named
  rw [ho] at hown
  have hl := lv_entry vs (n := maxL) hlen
  rw [lg_entry_eq]
  exact body p e s m _ below meth c ⟨Bd.exec, Bd.bytes, hml, hown, atoms_spec (ws := ws) Bd.pre, Bd.notSynchronized⟩ ⟨⟨hK, hdis, x_A_in, hSt, hS⟩, hN, hn⟩ Bd.returns s.heap [] _ hP va_S.rf hl
end XC
