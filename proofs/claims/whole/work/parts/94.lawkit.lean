/-! ===== the law's own walk: two flat worlds side by side ===== -/
section YL
variable {p : Program} {l : Launch} {e : Env} {R : Room} {s : State} {m : MethodId} {args : Array Value} {below : List Frame} {meth : Method} {c : Code} {cells slots : Nat} {Q : State → Prop}
variable {cc : ByteArray} {nL : Nat} {Ts : List Cond} {own : String} {A : Nat → Prop} {I I2 : Heap → Prop} {lv lv' : List (Nat × Value)} {st st0 : List Value} {pc : Nat}
variable {D : va_G} {cl : List vw_C} {tys : List (ClassId × FieldType)} {N : Nat} {C : x_C} {ad : Nat → Nat} {St : x_St} {NW : x_Nt} {σ σ0 : x_S} {r0 : Int32}
/-- a call that keeps what is said of cells beside its world -/
theorem y_call (B : x_B p s m args meth c cc nL Ts own) (G : x_H s D cl tys N ad A St NW) {y : MethodName} {ws : List Cond} {bytes : ByteArray} {maxL n index na kc ci nf : Nat} {ret : Option FieldType} {Cn : String} {T : u_T} {As : List Value} {fs : (Nat → Int32) → List Value}
    (hI2 : ∀ H H1 : Heap, x_I D cl N C ad σ H → (∀ q : Nat, q < H.size → ¬ x_A N ad q → H1[q]? = H[q]?) → I2 H → I2 H1)
    (hM : x_NI l y ws n D cl tys N C ad St NW (.ref (ad kc) :: As) σ r0 σ0) (cw : CallW R s args own Cn index y bytes maxL ret ws (x_rm n) 0 0 na) (hk : kc < N) (hC : ∀ r, C r kc = .inr (ci, fs r)) (hc : cl[ci]? = some (Cn, T, nf)) (hs : st0 = As.reverse ++ .ref (ad kc) :: st) (hn : As.length = na) (hst : (st.map fun v => v.category).sum ≤ 8) (hcs : cells ≤ R.cells ∧ slots ≤ R.slots) (hdg : decode cc pc = .ok (.invokevirtual index, 3))
    (k : x_J p l e R s m args below meth c cells slots Q A nL (fun H => x_I D cl N C ad σ0 H ∧ I2 H) lv (.int r0 :: st) (pc + 3)) : x_J p l e R s m args below meth c cells slots Q A nL (fun H => x_I D cl N C ad σ H ∧ I2 H) lv st0 pc := by
  intro H locs ls h1 h2 h3
  subst hs
  have hsub : ∀ q, x_A N ad q → A q := fun q ⟨k, hk, e⟩ => by rw [e]; exact G.1.2.2.1 k hk
  refine va_calli (A0 := A) (va_runV (As := As) (rest := st) ⟨B.1, B.2.1, B.2.2.1, B.2.2.2.1, B.2.2.2.2.1⟩ hM cw ⟨x_blind2 _ G.1.2.2.2.1 G.2.1 σ, va_recv G.1.1 h1.1 hc (q0 := kc) (fs := fs (σ kc)) (by rw [x_l_at C ad σ hk, hC]), fun U hU hW => ⟨rfl, x_start G h1.1 h2 hU hW⟩⟩ rfl hn h3.1 rfl (lv_room hst) hdg hcs) h2 (fun q _ h => hsub q h) hsub (fun r u t H1 locs1 ht hvm hw hB _ hk1 hS => ?_)
  obtain ⟨rfl, rfl⟩ := hw
  have hB1 : x_I D cl N C ad u t.heap := hB
  rw [ht] at hB1
  exact k H1 locs1 ls ⟨hB1, hI2 H H1 h1.1 hk1 h1.2⟩ hS h3
theorem y_swap {P P2 : Heap → Prop} (k : x_J p l e R s m args below meth c cells slots Q A nL (fun H => P H ∧ P2 H) lv st pc) : x_J p l e R s m args below meth c cells slots Q A nL (fun H => P2 H ∧ P H) lv st pc := fun H locs ls h1 h2 h3 => k H locs ls ⟨h1.2, h1.1⟩ h2 h3
/-- a world apart is kept -/
theorem y_kept {N2 : Nat} {C2 : x_C} {ad2 : Nat → Nat} {τ : x_S} (hdj : ∀ i j, i < N → j < N2 → ad i ≠ ad2 j) : ∀ H H1 : Heap, x_I D cl N C ad σ H → (∀ q : Nat, q < H.size → ¬ x_A N ad q → H1[q]? = H[q]?) → x_I D cl N2 C2 ad2 τ H → x_I D cl N2 C2 ad2 τ H1 := by
  intro H H1 _ hk h2
  refine va_P.kept h2 (fun k q hq => ?_)
  have hlt := (h2 k q hq).lt
  obtain ⟨h4, rfl⟩ := x_l_in hq
  refine hk _ hlt (fun hz => ?_)
  obtain ⟨i, hi, he⟩ := hz
  exact hdj i k hi h4 he.symm
/-- the script -/
theorem y_sld (B : x_B p s m args meth c cc nL Ts own) {b L : Nat} {xs : Nat → Int32} (hX : va_X b L xs s s.heap) (hbl : b < s.heap.size) (hbA : ¬ A b) {i : Int32} {j : Nat} (hi : i = nI j) (hj : j < L) (hL : L ≤ 448) (hdg : decode cc pc = .ok (.iaload, 1)) (k : x_J p l e R s m args below meth c cells slots Q A nL I lv (.int (xs j) :: st) (pc + 1)) : x_J p l e R s m args below meth c cells slots Q A nL I lv (.int i :: .ref b :: st) pc := by
  intro H locs ls h1 h2 h3
  subst hi
  refine va_sld B.1 B.2.1 hX hbl hbA h2 (vp_in_nI hj (by omega)) hdg ?_
  rw [nI_clamp (by omega)]
  exact k H locs ls h1 h2 h3
theorem y_slen (B : x_B p s m args meth c cc nL Ts own) {b L : Nat} {xs : Nat → Int32} (hX : va_X b L xs s s.heap) (hbl : b < s.heap.size) (hbA : ¬ A b) (hdg : decode cc pc = .ok (.arraylength, 1)) (k : x_J p l e R s m args below meth c cells slots Q A nL I lv (.int (nI L) :: st) (pc + 1)) : x_J p l e R s m args below meth c cells slots Q A nL I lv (.ref b :: st) pc :=
  fun H locs ls h1 h2 h3 => va_slen B.1 B.2.1 hX hbl hbA h2 hdg (k H locs ls h1 h2 h3)
end YL
