section G
variable {p : Program} {l : Launch} {e : Env} {s : State} {m : MethodId} {args : Array Value} {below : List Frame} {meth : Method} {c : Code}
variable {D : va_G} {cI cQ cC cZ : ClassId} {ad aS : Nat → Nat} {r0 : Int32} {σ0 : x_S}
variable {k : Nat}
theorem hdX1_leave : yX1_leave.cls = RX1 ∧ yX1_leave.cls ≠ "java/lang/invoke/MethodHandle" ∧ yX1_leave.cls ≠ "java/lang/invoke/VarHandle" ∧ (parseMethodDescriptor yX1_leave.desc).map (fun d => d.parameters.length) = some 1 := by decide +kernel
theorem hdX5_isRow : yX5_isRow.cls ≠ "java/lang/invoke/MethodHandle" ∧ yX5_isRow.cls ≠ "java/lang/invoke/VarHandle" ∧ (parseMethodDescriptor yX5_isRow.desc).map (fun d => d.parameters.length) = some 1 := by decide +kernel
theorem hdX5_lay : yX5_lay.cls = RX5 ∧ yX5_lay.cls ≠ "java/lang/invoke/MethodHandle" ∧ yX5_lay.cls ≠ "java/lang/invoke/VarHandle" ∧ (parseMethodDescriptor yX5_lay.desc).map (fun d => d.parameters.length) = some 3 := by decide +kernel
theorem hdX5_isMissing : yX5_isMissing.cls = RX5 ∧ yX5_isMissing.cls ≠ "java/lang/invoke/MethodHandle" ∧ yX5_isMissing.cls ≠ "java/lang/invoke/VarHandle" ∧ (parseMethodDescriptor yX5_isMissing.desc).map (fun d => d.parameters.length) = some 1 := by decide +kernel
theorem hdX5_reaches : yX5_reaches.cls = RX5 ∧ yX5_reaches.cls ≠ "java/lang/invoke/MethodHandle" ∧ yX5_reaches.cls ≠ "java/lang/invoke/VarHandle" ∧ (parseMethodDescriptor yX5_reaches.desc).map (fun d => d.parameters.length) = some 3 := by decide +kernel
theorem hdX5_findingOf : yX5_findingOf.cls = RX5 ∧ yX5_findingOf.cls ≠ "java/lang/invoke/MethodHandle" ∧ yX5_findingOf.cls ≠ "java/lang/invoke/VarHandle" ∧ (parseMethodDescriptor yX5_findingOf.desc).map (fun d => d.parameters.length) = some 3 := by decide +kernel
theorem hdX5_lowestBits : yX5_lowestBits.cls ≠ "java/lang/invoke/MethodHandle" ∧ yX5_lowestBits.cls ≠ "java/lang/invoke/VarHandle" ∧ (parseMethodDescriptor yX5_lowestBits.desc).map (fun d => d.parameters.length) = some 2 := by decide +kernel
theorem hdX5_put : yX5_put.cls = RX5 ∧ yX5_put.cls ≠ "java/lang/invoke/MethodHandle" ∧ yX5_put.cls ≠ "java/lang/invoke/VarHandle" ∧ (parseMethodDescriptor yX5_put.desc).map (fun d => d.parameters.length) = some 3 := by decide +kernel
theorem hdX5_areAlike : yX5_areAlike.cls = RX5 ∧ yX5_areAlike.cls ≠ "java/lang/invoke/MethodHandle" ∧ yX5_areAlike.cls ≠ "java/lang/invoke/VarHandle" ∧ (parseMethodDescriptor yX5_areAlike.desc).map (fun d => d.parameters.length) = some 2 := by decide +kernel
theorem hdX5_carry : yX5_carry.cls = RX5 ∧ yX5_carry.cls ≠ "java/lang/invoke/MethodHandle" ∧ yX5_carry.cls ≠ "java/lang/invoke/VarHandle" ∧ (parseMethodDescriptor yX5_carry.desc).map (fun d => d.parameters.length) = some 5 := by decide +kernel
theorem hdX5_takeAway : yX5_takeAway.cls = RX5 ∧ yX5_takeAway.cls ≠ "java/lang/invoke/MethodHandle" ∧ yX5_takeAway.cls ≠ "java/lang/invoke/VarHandle" ∧ (parseMethodDescriptor yX5_takeAway.desc).map (fun d => d.parameters.length) = some 1 := by decide +kernel
theorem hdX0_forgetAll : yX0_forgetAll.cls = RX0 ∧ yX0_forgetAll.cls ≠ "java/lang/invoke/MethodHandle" ∧ yX0_forgetAll.cls ≠ "java/lang/invoke/VarHandle" ∧ (parseMethodDescriptor yX0_forgetAll.desc).map (fun d => d.parameters.length) = some 0 := by decide +kernel
theorem hdX0_keep : yX0_keep.cls = RX0 ∧ yX0_keep.cls ≠ "java/lang/invoke/MethodHandle" ∧ yX0_keep.cls ≠ "java/lang/invoke/VarHandle" ∧ (parseMethodDescriptor yX0_keep.desc).map (fun d => d.parameters.length) = some 3 := by decide +kernel
theorem hdX0_takeBack : yX0_takeBack.cls = RX0 ∧ yX0_takeBack.cls ≠ "java/lang/invoke/MethodHandle" ∧ yX0_takeBack.cls ≠ "java/lang/invoke/VarHandle" ∧ (parseMethodDescriptor yX0_takeBack.desc).map (fun d => d.parameters.length) = some 1 := by decide +kernel
theorem hdX6_offer : yX6_offer.cls = RX6 ∧ yX6_offer.cls ≠ "java/lang/invoke/MethodHandle" ∧ yX6_offer.cls ≠ "java/lang/invoke/VarHandle" ∧ (parseMethodDescriptor yX6_offer.desc).map (fun d => d.parameters.length) = some 4 := by decide +kernel
theorem hdX6_fill : yX6_fill.cls = RX6 ∧ yX6_fill.cls ≠ "java/lang/invoke/MethodHandle" ∧ yX6_fill.cls ≠ "java/lang/invoke/VarHandle" ∧ (parseMethodDescriptor yX6_fill.desc).map (fun d => d.parameters.length) = some 5 := by decide +kernel
theorem hdX6_leastDuty : yX6_leastDuty.cls = RX6 ∧ yX6_leastDuty.cls ≠ "java/lang/invoke/MethodHandle" ∧ yX6_leastDuty.cls ≠ "java/lang/invoke/VarHandle" ∧ (parseMethodDescriptor yX6_leastDuty.desc).map (fun d => d.parameters.length) = some 5 := by decide +kernel
theorem hdX6_firstOfCheapest : yX6_firstOfCheapest.cls = RX6 ∧ yX6_firstOfCheapest.cls ≠ "java/lang/invoke/MethodHandle" ∧ yX6_firstOfCheapest.cls ≠ "java/lang/invoke/VarHandle" ∧ (parseMethodDescriptor yX6_firstOfCheapest.desc).map (fun d => d.parameters.length) = some 4 := by decide +kernel
theorem hdX6_gestureOfCheapest : yX6_gestureOfCheapest.cls = RX6 ∧ yX6_gestureOfCheapest.cls ≠ "java/lang/invoke/MethodHandle" ∧ yX6_gestureOfCheapest.cls ≠ "java/lang/invoke/VarHandle" ∧ (parseMethodDescriptor yX6_gestureOfCheapest.desc).map (fun d => d.parameters.length) = some 6 := by decide +kernel
theorem hdX5_at : yX5_at.cls = RX5 ∧ yX5_at.cls ≠ "java/lang/invoke/MethodHandle" ∧ yX5_at.cls ≠ "java/lang/invoke/VarHandle" ∧ (parseMethodDescriptor yX5_at.desc).map (fun d => d.parameters.length) = some 2 := by decide +kernel
theorem hdX1_bodyFor : yX1_bodyFor.cls ≠ "java/lang/invoke/MethodHandle" ∧ yX1_bodyFor.cls ≠ "java/lang/invoke/VarHandle" ∧ (parseMethodDescriptor yX1_bodyFor.desc).map (fun d => d.parameters.length) = some 2 := by decide +kernel
theorem hdX1_asked : yX1_asked.cls = RX1 ∧ yX1_asked.cls ≠ "java/lang/invoke/MethodHandle" ∧ yX1_asked.cls ≠ "java/lang/invoke/VarHandle" ∧ (parseMethodDescriptor yX1_asked.desc).map (fun d => d.parameters.length) = some 4 := by decide +kernel
theorem hdX1_sizeBy : yX1_sizeBy.cls = RX1 ∧ yX1_sizeBy.cls ≠ "java/lang/invoke/MethodHandle" ∧ yX1_sizeBy.cls ≠ "java/lang/invoke/VarHandle" ∧ (parseMethodDescriptor yX1_sizeBy.desc).map (fun d => d.parameters.length) = some 4 := by decide +kernel
theorem hdX1_markBy : yX1_markBy.cls = RX1 ∧ yX1_markBy.cls ≠ "java/lang/invoke/MethodHandle" ∧ yX1_markBy.cls ≠ "java/lang/invoke/VarHandle" ∧ (parseMethodDescriptor yX1_markBy.desc).map (fun d => d.parameters.length) = some 4 := by decide +kernel
theorem hdX1_given : yX1_given.cls = RX1 ∧ yX1_given.cls ≠ "java/lang/invoke/MethodHandle" ∧ yX1_given.cls ≠ "java/lang/invoke/VarHandle" ∧ (parseMethodDescriptor yX1_given.desc).map (fun d => d.parameters.length) = some 4 := by decide +kernel
theorem hdX1_answer : yX1_answer.cls = RX1 ∧ yX1_answer.cls ≠ "java/lang/invoke/MethodHandle" ∧ yX1_answer.cls ≠ "java/lang/invoke/VarHandle" ∧ (parseMethodDescriptor yX1_answer.desc).map (fun d => d.parameters.length) = some 3 := by decide +kernel
theorem hdX1_numberLeft : yX1_numberLeft.cls = RX1 ∧ yX1_numberLeft.cls ≠ "java/lang/invoke/MethodHandle" ∧ yX1_numberLeft.cls ≠ "java/lang/invoke/VarHandle" ∧ (parseMethodDescriptor yX1_numberLeft.desc).map (fun d => d.parameters.length) = some 1 := by decide +kernel
theorem hdX5_howMany : yX5_howMany.cls = RX5 ∧ yX5_howMany.cls ≠ "java/lang/invoke/MethodHandle" ∧ yX5_howMany.cls ≠ "java/lang/invoke/VarHandle" ∧ (parseMethodDescriptor yX5_howMany.desc).map (fun d => d.parameters.length) = some 0 := by decide +kernel
theorem iX1_leave_0 : Cond.fieldLink RX1 15 "SignDuty$Asks" "left" "I" ∈ wsX1_leave := by decide +kernel
theorem iX1_leave_cX1 : ∀ w ∈ u_ws RX1 TX1 2, w ∈ wsX1_leave := by decide +kernel
theorem iX1_leave_2 : Cond.fieldLink RX1 11 "SignDuty$Asks" "numbers" "[I" ∈ wsX1_leave := by decide +kernel
set_option maxRecDepth 100000 in
set_option maxHeartbeats 4000000 in
theorem mX1_leave {σ : x_S} {a1 : Int32} (hdis : x_dis s_N ad) (hf : fX1_leave a1 σ = some σ0) : x_NV l yX1_leave wsX1_leave 0 D vwCl (s_tys cI cQ cC cZ) s_N (s_C cI cQ cC ad) ad (s_St aS) s_NW [.ref (ad 30), .int a1] σ σ0 := by
  refine x_met (cc := cX1_leave) (own := RX1) (maxL := 2) (ret := none) (by decide +kernel) rfl rfl (Nat.le_of_ble_eq_true rfl) hdis (s_StOk aS) s_NwOk (fun p e s m args below meth c B G hr => ?_)
  unfold fX1_leave at hf
  refine x_sub (lv' := [(0, .ref (ad 30)), (1, .int a1)]) [0, 1] rfl ?_
  refine x_aload_n B dX1_leave_0 rfl 0 rfl ?_
  refine x_get (v := .int (σ 30 1)) (kc := 30) (index := 15) B G.1 iX1_leave_cX1 rfl (by decide) s_c30 1 (by decide) iX1_leave_0 rfl dX1_leave_1 ?_
  refine x_bipush (v := 16) B dX1_leave_4 (by decide) ?_
  refine x_icmp_ge (tgt := 29) B dX1_leave_6 (by decide) (fun h1 => ?_) (fun h1 => ?_)
  · replace hf := x_it h1 hf
    obtain rfl := x_retV hf
    exact x_vret B hr dX1_leave_29
  · replace hf := x_if h1 hf
    refine x_aload_n B dX1_leave_9 rfl 0 rfl ?_
    refine x_get (v := .ref (ad 31)) (kc := 30) (index := 11) B G.1 iX1_leave_cX1 rfl (by decide) s_c30 0 (by decide) iX1_leave_2 rfl dX1_leave_10 ?_
    refine x_aload_n B dX1_leave_13 rfl 0 rfl ?_
    refine x_get (v := .int (σ 30 1)) (kc := 30) (index := 15) B G.1 iX1_leave_cX1 rfl (by decide) s_c30 1 (by decide) iX1_leave_0 rfl dX1_leave_14 ?_
    refine x_iload_n B dX1_leave_17 rfl 1 rfl ?_
    obtain ⟨h2, hf⟩ := x_gs hf
    obtain ⟨σ3, u4, hf⟩ := x_ws hf
    refine x_iast (kc := 31) (t0 := 0) B G.1 (by decide) s_c31 rfl h2 dX1_leave_18 ?_
    refine x_nm u4 ?_
    refine x_aload_n B dX1_leave_19 rfl 0 rfl ?_
    refine x_dup B dX1_leave_20 rfl ?_
    refine x_get (v := .int (σ3 30 1)) (kc := 30) (index := 15) B G.1 iX1_leave_cX1 rfl (by decide) s_c30 1 (by decide) iX1_leave_0 rfl dX1_leave_21 ?_
    refine x_iconst (v := 1) B dX1_leave_24 (by decide) ?_
    refine x_iadd B dX1_leave_25 ?_
    obtain ⟨σ5, u6, hf⟩ := x_ws hf
    refine x_put (v := ((σ3 30 1) + 1)) (ty := .int) (kc := 30) (index := 15) B G.1 iX1_leave_cX1 tyX1 tyX1_ok nmX1 rfl (by decide) s_c30 1 (by decide) iX1_leave_0 rfl rfl rfl rfl (Nat.le_of_ble_eq_true rfl) (s_w1_1 _ _) dX1_leave_26 ?_
    refine x_nm u6 ?_
    obtain rfl := x_retV hf
    exact x_vret B hr dX1_leave_29
set_option maxRecDepth 100000 in
set_option maxHeartbeats 4000000 in
theorem mX5_isRow {σ : x_S} {a0 : Int32} (hdis : x_dis s_N ad) (hf : fX5_isRow a0 σ = some r0) : x_NI l yX5_isRow wsX5_isRow 0 D vwCl (s_tys cI cQ cC cZ) s_N (s_C cI cQ cC ad) ad (s_St aS) s_NW [.int a0] σ r0 σ := by
  refine x_met (cc := cX5_isRow) (own := RX5) (maxL := 1) (ret := (some .boolean)) (by decide +kernel) rfl rfl (Nat.le_of_ble_eq_true rfl) hdis (s_StOk aS) s_NwOk (fun p e s m args below meth c B G hr => ?_)
  unfold fX5_isRow at hf
  refine x_sub (lv' := [(0, .int a0)]) [0] rfl ?_
  refine x_iload_n B dX5_isRow_0 rfl 0 rfl ?_
  refine x_if_lt (tgt := 14) B dX5_isRow_1 (by decide) (fun h1 => ?_) (fun h1 => ?_)
  · replace hf := x_it h1 hf
    refine x_iconst (v := 0) B dX5_isRow_14 (by decide) ?_
    obtain rfl := x_retP hf
    exact x_zret B hr (by decide) dX5_isRow_15
  · replace hf := x_if h1 hf
    refine x_iload_n B dX5_isRow_4 rfl 0 rfl ?_
    refine x_bipush (v := 8) B dX5_isRow_5 (by decide) ?_
    refine x_icmp_ge (tgt := 14) B dX5_isRow_7 (by decide) (fun h2 => ?_) (fun h2 => ?_)
    · replace hf := x_it h2 hf
      refine x_iconst (v := 0) B dX5_isRow_14 (by decide) ?_
      obtain rfl := x_retP hf
      exact x_zret B hr (by decide) dX5_isRow_15
    · replace hf := x_if h2 hf
      refine x_iconst (v := 1) B dX5_isRow_10 (by decide) ?_
      refine x_goto (tgt := 15) B dX5_isRow_11 (by decide) ?_
      obtain rfl := x_retP hf
      exact x_zret B hr (by decide) dX5_isRow_15
theorem iX5_lay_0 : Cond.fieldLink RX5 16 "SignDuty$Rows" "lengths" "[I" ∈ wsX5_lay := by decide +kernel
theorem iX5_lay_cX5 : ∀ w ∈ u_ws RX5 TX5 3, w ∈ wsX5_lay := by decide +kernel
theorem iX5_lay_2 : Cond.fieldLink RX5 20 "SignDuty$Rows" "lanes" "[I" ∈ wsX5_lay := by decide +kernel
theorem iX5_lay_3 : Cond.fieldLink RX5 13 "SignDuty$Rows" "items" "[[I" ∈ wsX5_lay := by decide +kernel
set_option maxRecDepth 100000 in
set_option maxHeartbeats 4000000 in
theorem qX5_lay_17 {σ : x_S} {x1 : Int32} {x4 : Int32} {K17 : Int32 → x_S → Option x_S} (B : x_B p s m args meth c cX5_lay 5 wsX5_lay RX5) (G : x_H s D vwCl (s_tys cI cQ cC cZ) s_N ad (x_A s_N ad) (s_St aS) s_NW) (hr : meth.sig.returnType = none) (hK17 : ∀ (x4 : Int32) (σ : x_S), K17 x4 σ = some σ0 → x_J p l e (x_rm 0) s m args below meth c 0 0 (MQ below (x_Qv D vwCl s_N (s_C cI cQ cC ad) ad σ0) args s 0 0 (x_A s_N ad)) (x_A s_N ad) 5 (x_I D vwCl s_N (s_C cI cQ cC ad) ad σ) [(0, .ref (ad 1)), (1, .int x1), (4, .int x4)] [] 17) (hf : gX5_lay_17  x1 K17 x4 σ = some σ0) : x_J p l e (x_rm 0) s m args below meth c 0 0 (MQ below (x_Qv D vwCl s_N (s_C cI cQ cC ad) ad σ0) args s 0 0 (x_A s_N ad)) (x_A s_N ad) 5 (x_I D vwCl s_N (s_C cI cQ cC ad) ad σ) [(0, .ref (ad 1)), (1, .int x1), (4, .int x4)] [] 17 := by
  unfold gX5_lay_17 at hf
  refine x_iload B dX5_lay_17 2 rfl ?_
  refine x_bipush (v := 40) B dX5_lay_19 (by decide) ?_
  refine x_icmp_ge (tgt := 40) B dX5_lay_21 (by decide) (fun h1 => ?_) (fun h1 => ?_)
  · replace hf := x_it h1 hf
    obtain rfl := x_retV hf
    exact x_vret B hr dX5_lay_40
  · replace hf := x_if h1 hf
    refine x_aload_n B dX5_lay_24 rfl 0 rfl ?_
    refine x_get (v := .ref (ad 2)) (kc := 1) (index := 13) B G.1 iX5_lay_cX5 rfl (by decide) s_c1 0 (by decide) iX5_lay_3 rfl dX5_lay_25 ?_
    refine x_iload_n B dX5_lay_28 rfl 1 rfl ?_
    obtain ⟨h2, hf⟩ := x_gs hf
    refine x_aald (f := fun j => ad (3 + j)) (kc := 2) (t0 := 1) B G.1 (by decide) s_c2 rfl rfl h2 dX5_lay_29 ?_
    refine x_iload B dX5_lay_30 2 rfl ?_
    refine x_iconst (v := 0) B dX5_lay_32 (by decide) ?_
    obtain ⟨h3, hf⟩ := x_gs hf
    obtain ⟨σ4, u5, hf⟩ := x_ws hf
    refine x_iast (kc := (3 + x1.toNatClampNeg)) (t0 := 0) B G.1 (s_kI h2) (s_cI h2) rfl h3 dX5_lay_33 ?_
    refine x_nm u5 ?_
    refine x_iinc (v := (x4 + 1)) (lv' := [(4, .int (x4 + 1)), (0, .ref (ad 1)), (1, .int x1)]) B dX5_lay_34 2 rfl rfl (by decide) rfl ?_
    refine x_goto (tgt := 17) B dX5_lay_37 (by decide) ?_
    refine x_sub [1, 2, 0] rfl ?_
    exact hK17 _ _ hf
set_option maxRecDepth 100000 in
set_option maxHeartbeats 4000000 in
theorem kX5_lay_17 {σ : x_S} {x1 : Int32} {x4 : Int32} (B : x_B p s m args meth c cX5_lay 5 wsX5_lay RX5) (G : x_H s D vwCl (s_tys cI cQ cC cZ) s_N ad (x_A s_N ad) (s_St aS) s_NW) (hr : meth.sig.returnType = none) (hf : bX5_lay_17  x1 x4 σ = some σ0) : x_J p l e (x_rm 0) s m args below meth c 0 0 (MQ below (x_Qv D vwCl s_N (s_C cI cQ cC ad) ad σ0) args s 0 0 (x_A s_N ad)) (x_A s_N ad) 5 (x_I D vwCl s_N (s_C cI cQ cC ad) ad σ) [(0, .ref (ad 1)), (1, .int x1), (4, .int x4)] [] 17 := by
  have key : ∀ (n : Nat) (x4 : Int32) (σ : x_S), x_fx (α := Int32 → x_S → Option x_S) (fun _ _ => none) (fun K => fun x4 σ => gX5_lay_17  x1 K x4 σ) n x4 σ = some σ0 → x_J p l e (x_rm 0) s m args below meth c 0 0 (MQ below (x_Qv D vwCl s_N (s_C cI cQ cC ad) ad σ0) args s 0 0 (x_A s_N ad)) (x_A s_N ad) 5 (x_I D vwCl s_N (s_C cI cQ cC ad) ad σ) [(0, .ref (ad 1)), (1, .int x1), (4, .int x4)] [] 17 := by
    intro n
    induction n with
    | zero => intro x4 σ h; cases h
    | succ n ih => intro x4 σ h; exact qX5_lay_17 B G hr  ih  h
  exact key x_F x4 σ hf
set_option maxRecDepth 100000 in
set_option maxHeartbeats 4000000 in
theorem mX5_lay {σ : x_S} {a1 : Int32} {a2 : Int32} {a3 : Int32} (hdis : x_dis s_N ad) (hf : fX5_lay a1 a2 a3 σ = some σ0) : x_NV l yX5_lay wsX5_lay 0 D vwCl (s_tys cI cQ cC cZ) s_N (s_C cI cQ cC ad) ad (s_St aS) s_NW [.ref (ad 1), .int a1, .int a2, .int a3] σ σ0 := by
  refine x_met (cc := cX5_lay) (own := RX5) (maxL := 5) (ret := none) (by decide +kernel) rfl rfl (Nat.le_of_ble_eq_true rfl) hdis (s_StOk aS) s_NwOk (fun p e s m args below meth c B G hr => ?_)
  unfold fX5_lay at hf
  refine x_sub (lv' := [(0, .ref (ad 1)), (1, .int a1), (2, .int a2), (3, .int a3)]) [0, 1, 2, 3] rfl ?_
  refine x_aload_n B dX5_lay_0 rfl 0 rfl ?_
  refine x_get (v := .ref (ad 11)) (kc := 1) (index := 16) B G.1 iX5_lay_cX5 rfl (by decide) s_c1 1 (by decide) iX5_lay_0 rfl dX5_lay_1 ?_
  refine x_iload_n B dX5_lay_4 rfl 1 rfl ?_
  refine x_iload_n B dX5_lay_5 rfl 3 rfl ?_
  obtain ⟨h1, hf⟩ := x_gs hf
  obtain ⟨σ2, u3, hf⟩ := x_ws hf
  refine x_iast (kc := 11) (t0 := 0) B G.1 (by decide) s_c11 rfl h1 dX5_lay_6 ?_
  refine x_nm u3 ?_
  refine x_aload_n B dX5_lay_7 rfl 0 rfl ?_
  refine x_get (v := .ref (ad 12)) (kc := 1) (index := 20) B G.1 iX5_lay_cX5 rfl (by decide) s_c1 2 (by decide) iX5_lay_2 rfl dX5_lay_8 ?_
  refine x_iload_n B dX5_lay_11 rfl 1 rfl ?_
  refine x_iload_n B dX5_lay_12 rfl 2 rfl ?_
  obtain ⟨h4, hf⟩ := x_gs hf
  obtain ⟨σ5, u6, hf⟩ := x_ws hf
  refine x_iast (kc := 12) (t0 := 0) B G.1 (by decide) s_c12 rfl h4 dX5_lay_13 ?_
  refine x_nm u6 ?_
  refine x_iconst (v := 0) B dX5_lay_14 (by decide) ?_
  refine x_istore (lv' := [(4, .int 0), (0, .ref (ad 1)), (1, .int a1), (2, .int a2), (3, .int a3)]) B dX5_lay_15 (by decide) rfl ?_
  refine x_sub [1, 2, 0] rfl ?_
  exact kX5_lay_17 B G hr hf
theorem iX5_isMissing_0 : Cond.fieldLink RX5 16 "SignDuty$Rows" "lengths" "[I" ∈ wsX5_isMissing := by decide +kernel
theorem iX5_isMissing_cX5 : ∀ w ∈ u_ws RX5 TX5 3, w ∈ wsX5_isMissing := by decide +kernel
set_option maxRecDepth 100000 in
set_option maxHeartbeats 4000000 in
theorem mX5_isMissing {σ : x_S} {a1 : Int32} (hdis : x_dis s_N ad) (hf : fX5_isMissing a1 σ = some r0) : x_NI l yX5_isMissing wsX5_isMissing 0 D vwCl (s_tys cI cQ cC cZ) s_N (s_C cI cQ cC ad) ad (s_St aS) s_NW [.ref (ad 1), .int a1] σ r0 σ := by
  refine x_met (cc := cX5_isMissing) (own := RX5) (maxL := 2) (ret := (some .boolean)) (by decide +kernel) rfl rfl (Nat.le_of_ble_eq_true rfl) hdis (s_StOk aS) s_NwOk (fun p e s m args below meth c B G hr => ?_)
  unfold fX5_isMissing at hf
  refine x_sub (lv' := [(0, .ref (ad 1)), (1, .int a1)]) [0, 1] rfl ?_
  refine x_aload_n B dX5_isMissing_0 rfl 0 rfl ?_
  refine x_get (v := .ref (ad 11)) (kc := 1) (index := 16) B G.1 iX5_isMissing_cX5 rfl (by decide) s_c1 1 (by decide) iX5_isMissing_0 rfl dX5_isMissing_1 ?_
  refine x_iload_n B dX5_isMissing_4 rfl 1 rfl ?_
  obtain ⟨h1, hf⟩ := x_gs hf
  refine x_iald (kc := 11) (t0 := 0) B G.1 (by decide) s_c11 rfl h1 dX5_isMissing_5 ?_
  refine x_iconst (v := (-1)) B dX5_isMissing_6 (by decide) ?_
  refine x_icmp_ne (tgt := 14) B dX5_isMissing_7 (by decide) (fun h2 => ?_) (fun h2 => ?_)
  · replace hf := x_if h2 hf
    refine x_iconst (v := 0) B dX5_isMissing_14 (by decide) ?_
    obtain rfl := x_retP hf
    exact x_zret B hr (by decide) dX5_isMissing_15
  · replace hf := x_it h2 hf
    refine x_iconst (v := 1) B dX5_isMissing_10 (by decide) ?_
    refine x_goto (tgt := 15) B dX5_isMissing_11 (by decide) ?_
    obtain rfl := x_retP hf
    exact x_zret B hr (by decide) dX5_isMissing_15
theorem iX5_reaches_0 : Cond.fieldLink RX5 16 "SignDuty$Rows" "lengths" "[I" ∈ wsX5_reaches := by decide +kernel
theorem iX5_reaches_cX5 : ∀ w ∈ u_ws RX5 TX5 3, w ∈ wsX5_reaches := by decide +kernel
set_option maxRecDepth 100000 in
set_option maxHeartbeats 4000000 in
theorem mX5_reaches {σ : x_S} {a1 : Int32} {a2 : Int32} {a3 : Int32} (hdis : x_dis s_N ad) (hf : fX5_reaches a1 a2 a3 σ = some r0) : x_NI l yX5_reaches wsX5_reaches 0 D vwCl (s_tys cI cQ cC cZ) s_N (s_C cI cQ cC ad) ad (s_St aS) s_NW [.ref (ad 1), .int a1, .int a2, .int a3] σ r0 σ := by
  refine x_met (cc := cX5_reaches) (own := RX5) (maxL := 4) (ret := (some .boolean)) (by decide +kernel) rfl rfl (Nat.le_of_ble_eq_true rfl) hdis (s_StOk aS) s_NwOk (fun p e s m args below meth c B G hr => ?_)
  unfold fX5_reaches at hf
  refine x_sub (lv' := [(0, .ref (ad 1)), (1, .int a1), (2, .int a2), (3, .int a3)]) [0, 1, 2, 3] rfl ?_
  refine x_iload_n B dX5_reaches_0 rfl 2 rfl ?_
  refine x_if_lt (tgt := 34) B dX5_reaches_1 (by decide) (fun h1 => ?_) (fun h1 => ?_)
  · replace hf := x_it h1 hf
    refine x_iconst (v := 0) B dX5_reaches_34 (by decide) ?_
    obtain rfl := x_retP hf
    exact x_zret B hr (by decide) dX5_reaches_35
  · replace hf := x_if h1 hf
    refine x_iload_n B dX5_reaches_4 rfl 3 rfl ?_
    refine x_if_lt (tgt := 34) B dX5_reaches_5 (by decide) (fun h2 => ?_) (fun h2 => ?_)
    · replace hf := x_it h2 hf
      refine x_iconst (v := 0) B dX5_reaches_34 (by decide) ?_
      obtain rfl := x_retP hf
      exact x_zret B hr (by decide) dX5_reaches_35
    · replace hf := x_if h2 hf
      refine x_iload_n B dX5_reaches_8 rfl 3 rfl ?_
      refine x_aload_n B dX5_reaches_9 rfl 0 rfl ?_
      refine x_get (v := .ref (ad 11)) (kc := 1) (index := 16) B G.1 iX5_reaches_cX5 rfl (by decide) s_c1 1 (by decide) iX5_reaches_0 rfl dX5_reaches_10 ?_
      refine x_iload_n B dX5_reaches_13 rfl 1 rfl ?_
      obtain ⟨h3, hf⟩ := x_gs hf
      refine x_iald (kc := 11) (t0 := 0) B G.1 (by decide) s_c11 rfl h3 dX5_reaches_14 ?_
      refine x_icmp_gt (tgt := 34) B dX5_reaches_15 (by decide) (fun h4 => ?_) (fun h4 => ?_)
      · replace hf := x_it h4 hf
        refine x_iconst (v := 0) B dX5_reaches_34 (by decide) ?_
        obtain rfl := x_retP hf
        exact x_zret B hr (by decide) dX5_reaches_35
      · replace hf := x_if h4 hf
        refine x_iload_n B dX5_reaches_18 rfl 2 rfl ?_
        refine x_aload_n B dX5_reaches_19 rfl 0 rfl ?_
        refine x_get (v := .ref (ad 11)) (kc := 1) (index := 16) B G.1 iX5_reaches_cX5 rfl (by decide) s_c1 1 (by decide) iX5_reaches_0 rfl dX5_reaches_20 ?_
        refine x_iload_n B dX5_reaches_23 rfl 1 rfl ?_
        obtain ⟨h5, hf⟩ := x_gs hf
        refine x_iald (kc := 11) (t0 := 0) B G.1 (by decide) s_c11 rfl h5 dX5_reaches_24 ?_
        refine x_iload_n B dX5_reaches_25 rfl 3 rfl ?_
        refine x_isub B dX5_reaches_26 ?_
        refine x_icmp_gt (tgt := 34) B dX5_reaches_27 (by decide) (fun h6 => ?_) (fun h6 => ?_)
        · replace hf := x_it h6 hf
          refine x_iconst (v := 0) B dX5_reaches_34 (by decide) ?_
          obtain rfl := x_retP hf
          exact x_zret B hr (by decide) dX5_reaches_35
        · replace hf := x_if h6 hf
          refine x_iconst (v := 1) B dX5_reaches_30 (by decide) ?_
          refine x_goto (tgt := 35) B dX5_reaches_31 (by decide) ?_
          obtain rfl := x_retP hf
          exact x_zret B hr (by decide) dX5_reaches_35
set_option maxRecDepth 100000 in
set_option maxHeartbeats 4000000 in
theorem mX5_findingOf {σ : x_S} {a1 : Int32} {a2 : Int32} {a3 : Int32} (hdis : x_dis s_N ad) (hf : fX5_findingOf a1 a2 a3 σ = some r0) : x_NI l yX5_findingOf wsX5_findingOf 1 D vwCl (s_tys cI cQ cC cZ) s_N (s_C cI cQ cC ad) ad (s_St aS) s_NW [.ref (ad 1), .int a1, .int a2, .int a3] σ r0 σ := by
  refine x_met (cc := cX5_findingOf) (own := RX5) (maxL := 4) (ret := (some .int)) (by decide +kernel) rfl rfl (Nat.le_of_ble_eq_true rfl) hdis (s_StOk aS) s_NwOk (fun p e s m args below meth c B G hr => ?_)
  unfold fX5_findingOf at hf
  refine x_sub (lv' := [(0, .ref (ad 1)), (1, .int a1), (2, .int a2), (3, .int a3)]) [0, 1, 2, 3] rfl ?_
  refine x_aload_n B dX5_findingOf_0 rfl 0 rfl ?_
  refine x_iload_n B dX5_findingOf_1 rfl 1 rfl ?_
  obtain ⟨r2, e1, hf⟩ := x_ps hf
  refine x_callV (As := [.int a1]) (st := []) B G (mX5_isMissing (l := l) G.1.2.1  e1) (cwV 1 B.2.2.2.2.1 gX5_findingOf_X5_isMissing rfl rfl rfl hdX5_isMissing (x_rm_ok (by omega) (by decide))) (by decide) s_c1 rfl rfl rfl (Nat.le_of_ble_eq_true rfl) ⟨Nat.zero_le _, Nat.zero_le _⟩ dX5_findingOf_2 ?_
  refine x_if_eq (tgt := 10) B dX5_findingOf_5 (by decide) (fun h3 => ?_) (fun h3 => ?_)
  · replace hf := x_it h3 hf
    refine x_aload_n B dX5_findingOf_10 rfl 0 rfl ?_
    refine x_iload_n B dX5_findingOf_11 rfl 1 rfl ?_
    refine x_iload_n B dX5_findingOf_12 rfl 2 rfl ?_
    refine x_iload_n B dX5_findingOf_13 rfl 3 rfl ?_
    obtain ⟨r5, e4, hf⟩ := x_ps hf
    refine x_callV (As := [.int a1, .int a2, .int a3]) (st := []) B G (mX5_reaches (l := l) G.1.2.1  e4) (cwV 3 B.2.2.2.2.1 gX5_findingOf_X5_reaches rfl rfl rfl hdX5_reaches (x_rm_ok (by omega) (by decide))) (by decide) s_c1 rfl rfl rfl (Nat.le_of_ble_eq_true rfl) ⟨Nat.zero_le _, Nat.zero_le _⟩ dX5_findingOf_14 ?_
    refine x_if_eq (tgt := 24) B dX5_findingOf_17 (by decide) (fun h6 => ?_) (fun h6 => ?_)
    · replace hf := x_it h6 hf
      refine x_iconst (v := 2) B dX5_findingOf_24 (by decide) ?_
      obtain rfl := x_retP hf
      exact x_iret B hr dX5_findingOf_25
    · replace hf := x_if h6 hf
      refine x_iconst (v := 0) B dX5_findingOf_20 (by decide) ?_
      refine x_goto (tgt := 25) B dX5_findingOf_21 (by decide) ?_
      obtain rfl := x_retP hf
      exact x_iret B hr dX5_findingOf_25
  · replace hf := x_if h3 hf
    refine x_iconst (v := 1) B dX5_findingOf_8 (by decide) ?_
    obtain rfl := x_retP hf
    exact x_iret B hr dX5_findingOf_9
set_option maxRecDepth 100000 in
set_option maxHeartbeats 4000000 in
theorem mX5_lowestBits {σ : x_S} {a0 : Int32} {a1 : Int32} (hdis : x_dis s_N ad) (hf : fX5_lowestBits a0 a1 σ = some r0) : x_NI l yX5_lowestBits wsX5_lowestBits 0 D vwCl (s_tys cI cQ cC cZ) s_N (s_C cI cQ cC ad) ad (s_St aS) s_NW [.int a0, .int a1] σ r0 σ := by
  refine x_met (cc := cX5_lowestBits) (own := RX5) (maxL := 2) (ret := (some .int)) (by decide +kernel) rfl rfl (Nat.le_of_ble_eq_true rfl) hdis (s_StOk aS) s_NwOk (fun p e s m args below meth c B G hr => ?_)
  unfold fX5_lowestBits at hf
  refine x_sub (lv' := [(0, .int a0), (1, .int a1)]) [0, 1] rfl ?_
  refine x_iload_n B dX5_lowestBits_0 rfl 1 rfl ?_
  refine x_if_ne (tgt := 7) B dX5_lowestBits_1 (by decide) (fun h1 => ?_) (fun h1 => ?_)
  · replace hf := x_if h1 hf
    refine x_iload_n B dX5_lowestBits_7 rfl 1 rfl ?_
    refine x_iconst (v := 1) B dX5_lowestBits_8 (by decide) ?_
    refine x_icmp_ne (tgt := 17) B dX5_lowestBits_9 (by decide) (fun h2 => ?_) (fun h2 => ?_)
    · replace hf := x_if h2 hf
      refine x_iload_n B dX5_lowestBits_17 rfl 0 rfl ?_
      obtain rfl := x_retP hf
      exact x_iret B hr dX5_lowestBits_18
    · replace hf := x_it h2 hf
      refine x_iload_n B dX5_lowestBits_12 rfl 0 rfl ?_
      refine x_i2s B dX5_lowestBits_13 ?_
      refine x_goto (tgt := 18) B dX5_lowestBits_14 (by decide) ?_
      obtain rfl := x_retP hf
      exact x_iret B hr dX5_lowestBits_18
  · replace hf := x_it h1 hf
    refine x_iload_n B dX5_lowestBits_4 rfl 0 rfl ?_
    refine x_i2b B dX5_lowestBits_5 ?_
    obtain rfl := x_retP hf
    exact x_iret B hr dX5_lowestBits_6
theorem iX5_put_0 : Cond.fieldLink RX5 13 "SignDuty$Rows" "items" "[[I" ∈ wsX5_put := by decide +kernel
theorem iX5_put_cX5 : ∀ w ∈ u_ws RX5 TX5 3, w ∈ wsX5_put := by decide +kernel
theorem iX5_put_2 : Cond.fieldLink RX5 20 "SignDuty$Rows" "lanes" "[I" ∈ wsX5_put := by decide +kernel
set_option maxRecDepth 100000 in
set_option maxHeartbeats 4000000 in
theorem mX5_put {σ : x_S} {a1 : Int32} {a2 : Int32} {a3 : Int32} (hdis : x_dis s_N ad) (hf : fX5_put a1 a2 a3 σ = some (r0, σ0)) : x_NI l yX5_put wsX5_put 1 D vwCl (s_tys cI cQ cC cZ) s_N (s_C cI cQ cC ad) ad (s_St aS) s_NW [.ref (ad 1), .int a1, .int a2, .int a3] σ r0 σ0 := by
  refine x_met (cc := cX5_put) (own := RX5) (maxL := 4) (ret := (some .int)) (by decide +kernel) rfl rfl (Nat.le_of_ble_eq_true rfl) hdis (s_StOk aS) s_NwOk (fun p e s m args below meth c B G hr => ?_)
  unfold fX5_put at hf
  refine x_sub (lv' := [(0, .ref (ad 1)), (1, .int a1), (2, .int a2), (3, .int a3)]) [0, 1, 2, 3] rfl ?_
  refine x_aload_n B dX5_put_0 rfl 0 rfl ?_
  refine x_get (v := .ref (ad 2)) (kc := 1) (index := 13) B G.1 iX5_put_cX5 rfl (by decide) s_c1 0 (by decide) iX5_put_0 rfl dX5_put_1 ?_
  refine x_iload_n B dX5_put_4 rfl 1 rfl ?_
  obtain ⟨h1, hf⟩ := x_gs hf
  refine x_aald (f := fun j => ad (3 + j)) (kc := 2) (t0 := 1) B G.1 (by decide) s_c2 rfl rfl h1 dX5_put_5 ?_
  refine x_iload_n B dX5_put_6 rfl 2 rfl ?_
  refine x_iload_n B dX5_put_7 rfl 3 rfl ?_
  refine x_aload_n B dX5_put_8 rfl 0 rfl ?_
  refine x_get (v := .ref (ad 12)) (kc := 1) (index := 20) B G.1 iX5_put_cX5 rfl (by decide) s_c1 2 (by decide) iX5_put_2 rfl dX5_put_9 ?_
  refine x_iload_n B dX5_put_12 rfl 1 rfl ?_
  obtain ⟨h2, hf⟩ := x_gs hf
  refine x_iald (kc := 12) (t0 := 0) B G.1 (by decide) s_c12 rfl h2 dX5_put_13 ?_
  obtain ⟨r4, e3, hf⟩ := x_ps hf
  refine x_callS (As := [.int a3, .int (σ 12 a1.toNatClampNeg)]) (st := [.int a2, .ref (ad (3 + a1.toNatClampNeg))]) B G (mX5_lowestBits (l := l) G.1.2.1  e3) (va_cwS 2 B.2.2.2.2.1 gX5_put_X5_lowestBits rfl rfl rfl hdX5_lowestBits (x_rm_ok (by omega) (by decide))) rfl rfl (Nat.le_of_ble_eq_true rfl) ⟨Nat.zero_le _, Nat.zero_le _⟩ dX5_put_14 ?_
  obtain ⟨h5, hf⟩ := x_gs hf
  obtain ⟨σ6, u7, hf⟩ := x_ws hf
  refine x_iast (kc := (3 + a1.toNatClampNeg)) (t0 := 0) B G.1 (s_kI h1) (s_cI h1) rfl h5 dX5_put_17 ?_
  refine x_nm u7 ?_
  refine x_aload_n B dX5_put_18 rfl 0 rfl ?_
  refine x_get (v := .ref (ad 2)) (kc := 1) (index := 13) B G.1 iX5_put_cX5 rfl (by decide) s_c1 0 (by decide) iX5_put_0 rfl dX5_put_19 ?_
  refine x_iload_n B dX5_put_22 rfl 1 rfl ?_
  obtain ⟨h8, hf⟩ := x_gs hf
  refine x_aald (f := fun j => ad (3 + j)) (kc := 2) (t0 := 1) B G.1 (by decide) s_c2 rfl rfl h8 dX5_put_23 ?_
  refine x_iload_n B dX5_put_24 rfl 2 rfl ?_
  obtain ⟨h9, hf⟩ := x_gs hf
  refine x_iald (kc := (3 + a1.toNatClampNeg)) (t0 := 0) B G.1 (s_kI h8) (s_cI h8) rfl h9 dX5_put_25 ?_
  obtain ⟨rfl, rfl⟩ := x_retI hf
  exact x_iret B hr dX5_put_26
theorem iX5_areAlike_0 : Cond.fieldLink RX5 20 "SignDuty$Rows" "lanes" "[I" ∈ wsX5_areAlike := by decide +kernel
theorem iX5_areAlike_cX5 : ∀ w ∈ u_ws RX5 TX5 3, w ∈ wsX5_areAlike := by decide +kernel
set_option maxRecDepth 100000 in
set_option maxHeartbeats 4000000 in
theorem mX5_areAlike {σ : x_S} {a1 : Int32} {a2 : Int32} (hdis : x_dis s_N ad) (hf : fX5_areAlike a1 a2 σ = some r0) : x_NI l yX5_areAlike wsX5_areAlike 0 D vwCl (s_tys cI cQ cC cZ) s_N (s_C cI cQ cC ad) ad (s_St aS) s_NW [.ref (ad 1), .int a1, .int a2] σ r0 σ := by
  refine x_met (cc := cX5_areAlike) (own := RX5) (maxL := 3) (ret := (some .boolean)) (by decide +kernel) rfl rfl (Nat.le_of_ble_eq_true rfl) hdis (s_StOk aS) s_NwOk (fun p e s m args below meth c B G hr => ?_)
  unfold fX5_areAlike at hf
  refine x_sub (lv' := [(0, .ref (ad 1)), (1, .int a1), (2, .int a2)]) [0, 1, 2] rfl ?_
  refine x_aload_n B dX5_areAlike_0 rfl 0 rfl ?_
  refine x_get (v := .ref (ad 12)) (kc := 1) (index := 20) B G.1 iX5_areAlike_cX5 rfl (by decide) s_c1 2 (by decide) iX5_areAlike_0 rfl dX5_areAlike_1 ?_
  refine x_iload_n B dX5_areAlike_4 rfl 1 rfl ?_
  obtain ⟨h1, hf⟩ := x_gs hf
  refine x_iald (kc := 12) (t0 := 0) B G.1 (by decide) s_c12 rfl h1 dX5_areAlike_5 ?_
  refine x_aload_n B dX5_areAlike_6 rfl 0 rfl ?_
  refine x_get (v := .ref (ad 12)) (kc := 1) (index := 20) B G.1 iX5_areAlike_cX5 rfl (by decide) s_c1 2 (by decide) iX5_areAlike_0 rfl dX5_areAlike_7 ?_
  refine x_iload_n B dX5_areAlike_10 rfl 2 rfl ?_
  obtain ⟨h2, hf⟩ := x_gs hf
  refine x_iald (kc := 12) (t0 := 0) B G.1 (by decide) s_c12 rfl h2 dX5_areAlike_11 ?_
  refine x_icmp_ne (tgt := 19) B dX5_areAlike_12 (by decide) (fun h3 => ?_) (fun h3 => ?_)
  · replace hf := x_if h3 hf
    refine x_iconst (v := 0) B dX5_areAlike_19 (by decide) ?_
    obtain rfl := x_retP hf
    exact x_zret B hr (by decide) dX5_areAlike_20
  · replace hf := x_it h3 hf
    refine x_iconst (v := 1) B dX5_areAlike_15 (by decide) ?_
    refine x_goto (tgt := 20) B dX5_areAlike_16 (by decide) ?_
    obtain rfl := x_retP hf
    exact x_zret B hr (by decide) dX5_areAlike_20
theorem iX5_carry_0 : Cond.fieldLink RX5 13 "SignDuty$Rows" "items" "[[I" ∈ wsX5_carry := by decide +kernel
theorem iX5_carry_cX5 : ∀ w ∈ u_ws RX5 TX5 3, w ∈ wsX5_carry := by decide +kernel
theorem iX5_carry_2 : Cond.methodLink RX5 35 arraycopyName ∈ wsX5_carry := by decide +kernel
theorem iX5_carry_3 : Cond.native arraycopyName ∈ wsX5_carry := by decide +kernel
theorem iX5_carry_4 : Cond.static arraycopyName ∈ wsX5_carry := by decide +kernel
theorem iX5_carry_5 : Cond.initialized "java/lang/System" ∈ wsX5_carry := by decide +kernel
set_option maxRecDepth 100000 in
set_option maxHeartbeats 4000000 in
theorem mX5_carry {σ : x_S} {a1 : Int32} {a2 : Int32} {a3 : Int32} {a4 : Int32} {a5 : Int32} (hdis : x_dis s_N ad) (hf : fX5_carry a1 a2 a3 a4 a5 σ = some σ0) : x_NV l yX5_carry wsX5_carry 1 D vwCl (s_tys cI cQ cC cZ) s_N (s_C cI cQ cC ad) ad (s_St aS) s_NW [.ref (ad 1), .int a1, .int a2, .int a3, .int a4, .int a5] σ σ0 := by
  refine x_met (cc := cX5_carry) (own := RX5) (maxL := 6) (ret := none) (by decide +kernel) rfl rfl (Nat.le_of_ble_eq_true rfl) hdis (s_StOk aS) s_NwOk (fun p e s m args below meth c B G hr => ?_)
  unfold fX5_carry at hf
  refine x_sub (lv' := [(0, .ref (ad 1)), (1, .int a1), (2, .int a2), (3, .int a3), (4, .int a4), (5, .int a5)]) [0, 1, 2, 3, 4, 5] rfl ?_
  refine x_aload_n B dX5_carry_0 rfl 0 rfl ?_
  refine x_get (v := .ref (ad 2)) (kc := 1) (index := 13) B G.1 iX5_carry_cX5 rfl (by decide) s_c1 0 (by decide) iX5_carry_0 rfl dX5_carry_1 ?_
  refine x_iload_n B dX5_carry_4 rfl 1 rfl ?_
  obtain ⟨h1, hf⟩ := x_gs hf
  refine x_aald (f := fun j => ad (3 + j)) (kc := 2) (t0 := 1) B G.1 (by decide) s_c2 rfl rfl h1 dX5_carry_5 ?_
  refine x_iload_n B dX5_carry_6 rfl 2 rfl ?_
  refine x_aload_n B dX5_carry_7 rfl 0 rfl ?_
  refine x_get (v := .ref (ad 2)) (kc := 1) (index := 13) B G.1 iX5_carry_cX5 rfl (by decide) s_c1 0 (by decide) iX5_carry_0 rfl dX5_carry_8 ?_
  refine x_iload_n B dX5_carry_11 rfl 3 rfl ?_
  obtain ⟨h2, hf⟩ := x_gs hf
  refine x_aald (f := fun j => ad (3 + j)) (kc := 2) (t0 := 1) B G.1 (by decide) s_c2 rfl rfl h2 dX5_carry_12 ?_
  refine x_iload B dX5_carry_13 4 rfl ?_
  refine x_iload B dX5_carry_15 5 rfl ?_
  obtain ⟨h3, hf⟩ := x_gs hf
  obtain ⟨σ4, u5, hf⟩ := x_ws hf
  refine x_copy (k0 := (3 + a1.toNatClampNeg)) (k1 := (3 + a3.toNatClampNeg)) (t0 := 0) B G.1 iX5_carry_2 iX5_carry_3 iX5_carry_4 iX5_carry_5 (s_kI h1) (s_kI h2) (s_cI h1) (s_cI h2) rfl h3 ⟨Nat.le_of_ble_eq_true rfl, Nat.le_of_ble_eq_true rfl⟩ dX5_carry_17 ?_
  refine x_nm u5 ?_
  obtain rfl := x_retV hf
  exact x_vret B hr dX5_carry_20
theorem iX5_takeAway_0 : Cond.fieldLink RX5 16 "SignDuty$Rows" "lengths" "[I" ∈ wsX5_takeAway := by decide +kernel
theorem iX5_takeAway_cX5 : ∀ w ∈ u_ws RX5 TX5 3, w ∈ wsX5_takeAway := by decide +kernel
set_option maxRecDepth 100000 in
set_option maxHeartbeats 4000000 in
theorem mX5_takeAway {σ : x_S} {a1 : Int32} (hdis : x_dis s_N ad) (hf : fX5_takeAway a1 σ = some (r0, σ0)) : x_NI l yX5_takeAway wsX5_takeAway 0 D vwCl (s_tys cI cQ cC cZ) s_N (s_C cI cQ cC ad) ad (s_St aS) s_NW [.ref (ad 1), .int a1] σ r0 σ0 := by
  refine x_met (cc := cX5_takeAway) (own := RX5) (maxL := 3) (ret := (some .int)) (by decide +kernel) rfl rfl (Nat.le_of_ble_eq_true rfl) hdis (s_StOk aS) s_NwOk (fun p e s m args below meth c B G hr => ?_)
  unfold fX5_takeAway at hf
  refine x_sub (lv' := [(0, .ref (ad 1)), (1, .int a1)]) [0, 1] rfl ?_
  refine x_aload_n B dX5_takeAway_0 rfl 0 rfl ?_
  refine x_get (v := .ref (ad 11)) (kc := 1) (index := 16) B G.1 iX5_takeAway_cX5 rfl (by decide) s_c1 1 (by decide) iX5_takeAway_0 rfl dX5_takeAway_1 ?_
  refine x_iload_n B dX5_takeAway_4 rfl 1 rfl ?_
  obtain ⟨h1, hf⟩ := x_gs hf
  refine x_iald (kc := 11) (t0 := 0) B G.1 (by decide) s_c11 rfl h1 dX5_takeAway_5 ?_
  refine x_istore_n (lv' := [(2, .int (σ 11 a1.toNatClampNeg)), (0, .ref (ad 1)), (1, .int a1)]) B dX5_takeAway_6 rfl (by decide) rfl ?_
  refine x_aload_n B dX5_takeAway_7 rfl 1 rfl ?_
  refine x_get (v := .ref (ad 11)) (kc := 1) (index := 16) B G.1 iX5_takeAway_cX5 rfl (by decide) s_c1 1 (by decide) iX5_takeAway_0 rfl dX5_takeAway_8 ?_
  refine x_iload_n B dX5_takeAway_11 rfl 2 rfl ?_
  refine x_iconst (v := (-1)) B dX5_takeAway_12 (by decide) ?_
  obtain ⟨h2, hf⟩ := x_gs hf
  obtain ⟨σ3, u4, hf⟩ := x_ws hf
  refine x_iast (kc := 11) (t0 := 0) B G.1 (by decide) s_c11 rfl h2 dX5_takeAway_13 ?_
  refine x_nm u4 ?_
  refine x_iload_n B dX5_takeAway_14 rfl 0 rfl ?_
  obtain ⟨rfl, rfl⟩ := x_retI hf
  exact x_iret B hr dX5_takeAway_15
theorem iX0_forgetAll_0 : Cond.fieldLink RX0 23 "SignDuty$Acts" "kept" "I" ∈ wsX0_forgetAll := by decide +kernel
theorem iX0_forgetAll_cX0 : ∀ w ∈ u_ws RX0 TX0 5, w ∈ wsX0_forgetAll := by decide +kernel
set_option maxRecDepth 100000 in
set_option maxHeartbeats 4000000 in
theorem mX0_forgetAll {σ : x_S} (hdis : x_dis s_N ad) (hf : fX0_forgetAll  σ = some σ0) : x_NV l yX0_forgetAll wsX0_forgetAll 0 D vwCl (s_tys cI cQ cC cZ) s_N (s_C cI cQ cC ad) ad (s_St aS) s_NW [.ref (ad 16)] σ σ0 := by
  refine x_met (cc := cX0_forgetAll) (own := RX0) (maxL := 1) (ret := none) (by decide +kernel) rfl rfl (Nat.le_of_ble_eq_true rfl) hdis (s_StOk aS) s_NwOk (fun p e s m args below meth c B G hr => ?_)
  unfold fX0_forgetAll at hf
  refine x_sub (lv' := [(0, .ref (ad 16))]) [0] rfl ?_
  refine x_aload_n B dX0_forgetAll_0 rfl 0 rfl ?_
  refine x_iconst (v := 0) B dX0_forgetAll_1 (by decide) ?_
  obtain ⟨σ1, u2, hf⟩ := x_ws hf
  refine x_put (v := 0) (ty := .int) (kc := 16) (index := 23) B G.1 iX0_forgetAll_cX0 tyX0 tyX0_ok nmX0 rfl (by decide) s_c16 4 (by decide) iX0_forgetAll_0 rfl rfl rfl rfl (Nat.le_of_ble_eq_true rfl) (s_w0_4 _ _) dX0_forgetAll_2 ?_
  refine x_nm u2 ?_
  obtain rfl := x_retV hf
  exact x_vret B hr dX0_forgetAll_5
theorem iX0_keep_0 : Cond.fieldLink RX0 9 "SignDuty$Acts" "deeds" "[I" ∈ wsX0_keep := by decide +kernel
theorem iX0_keep_cX0 : ∀ w ∈ u_ws RX0 TX0 5, w ∈ wsX0_keep := by decide +kernel
theorem iX0_keep_2 : Cond.fieldLink RX0 19 "SignDuty$Acts" "nextSlot" "I" ∈ wsX0_keep := by decide +kernel
theorem iX0_keep_3 : Cond.fieldLink RX0 13 "SignDuty$Acts" "whats" "[I" ∈ wsX0_keep := by decide +kernel
theorem iX0_keep_4 : Cond.fieldLink RX0 16 "SignDuty$Acts" "values" "[I" ∈ wsX0_keep := by decide +kernel
theorem iX0_keep_5 : Cond.fieldLink RX0 23 "SignDuty$Acts" "kept" "I" ∈ wsX0_keep := by decide +kernel
theorem iX0_keep_6 : Cond.methodLink RX0 26 Lib.Math.min.name ∈ wsX0_keep := by decide +kernel
theorem iX0_keep_7 : Cond.static Lib.Math.min.name ∈ wsX0_keep := by decide +kernel
theorem iX0_keep_8 : Cond.initialized "java/lang/Math" ∈ wsX0_keep := by decide +kernel
theorem iX0_keep_9 : Cond.code Lib.Math.min.name Lib.Math.min.code 2 (some .int) ∈ wsX0_keep := by decide +kernel
set_option maxRecDepth 100000 in
set_option maxHeartbeats 4000000 in
theorem mX0_keep {σ : x_S} {a1 : Int32} {a2 : Int32} {a3 : Int32} (hdis : x_dis s_N ad) (hf : fX0_keep a1 a2 a3 σ = some σ0) : x_NV l yX0_keep wsX0_keep 1 D vwCl (s_tys cI cQ cC cZ) s_N (s_C cI cQ cC ad) ad (s_St aS) s_NW [.ref (ad 16), .int a1, .int a2, .int a3] σ σ0 := by
  refine x_met (cc := cX0_keep) (own := RX0) (maxL := 4) (ret := none) (by decide +kernel) rfl rfl (Nat.le_of_ble_eq_true rfl) hdis (s_StOk aS) s_NwOk (fun p e s m args below meth c B G hr => ?_)
  unfold fX0_keep at hf
  refine x_sub (lv' := [(0, .ref (ad 16)), (1, .int a1), (2, .int a2), (3, .int a3)]) [0, 1, 2, 3] rfl ?_
  refine x_aload_n B dX0_keep_0 rfl 0 rfl ?_
  refine x_get (v := .ref (ad 17)) (kc := 16) (index := 9) B G.1 iX0_keep_cX0 rfl (by decide) s_c16 0 (by decide) iX0_keep_0 rfl dX0_keep_1 ?_
  refine x_aload_n B dX0_keep_4 rfl 0 rfl ?_
  refine x_get (v := .int (σ 16 3)) (kc := 16) (index := 19) B G.1 iX0_keep_cX0 rfl (by decide) s_c16 3 (by decide) iX0_keep_2 rfl dX0_keep_5 ?_
  refine x_iload_n B dX0_keep_8 rfl 1 rfl ?_
  obtain ⟨h1, hf⟩ := x_gs hf
  obtain ⟨σ2, u3, hf⟩ := x_ws hf
  refine x_iast (kc := 17) (t0 := 0) B G.1 (by decide) s_c17 rfl h1 dX0_keep_9 ?_
  refine x_nm u3 ?_
  refine x_aload_n B dX0_keep_10 rfl 0 rfl ?_
  refine x_get (v := .ref (ad 18)) (kc := 16) (index := 13) B G.1 iX0_keep_cX0 rfl (by decide) s_c16 1 (by decide) iX0_keep_3 rfl dX0_keep_11 ?_
  refine x_aload_n B dX0_keep_14 rfl 0 rfl ?_
  refine x_get (v := .int (σ2 16 3)) (kc := 16) (index := 19) B G.1 iX0_keep_cX0 rfl (by decide) s_c16 3 (by decide) iX0_keep_2 rfl dX0_keep_15 ?_
  refine x_iload_n B dX0_keep_18 rfl 2 rfl ?_
  obtain ⟨h4, hf⟩ := x_gs hf
  obtain ⟨σ5, u6, hf⟩ := x_ws hf
  refine x_iast (kc := 18) (t0 := 0) B G.1 (by decide) s_c18 rfl h4 dX0_keep_19 ?_
  refine x_nm u6 ?_
  refine x_aload_n B dX0_keep_20 rfl 0 rfl ?_
  refine x_get (v := .ref (ad 19)) (kc := 16) (index := 16) B G.1 iX0_keep_cX0 rfl (by decide) s_c16 2 (by decide) iX0_keep_4 rfl dX0_keep_21 ?_
  refine x_aload_n B dX0_keep_24 rfl 0 rfl ?_
  refine x_get (v := .int (σ5 16 3)) (kc := 16) (index := 19) B G.1 iX0_keep_cX0 rfl (by decide) s_c16 3 (by decide) iX0_keep_2 rfl dX0_keep_25 ?_
  refine x_iload_n B dX0_keep_28 rfl 3 rfl ?_
  obtain ⟨h7, hf⟩ := x_gs hf
  obtain ⟨σ8, u9, hf⟩ := x_ws hf
  refine x_iast (kc := 19) (t0 := 0) B G.1 (by decide) s_c19 rfl h7 dX0_keep_29 ?_
  refine x_nm u9 ?_
  refine x_aload_n B dX0_keep_30 rfl 0 rfl ?_
  refine x_aload_n B dX0_keep_31 rfl 0 rfl ?_
  refine x_get (v := .int (σ8 16 3)) (kc := 16) (index := 19) B G.1 iX0_keep_cX0 rfl (by decide) s_c16 3 (by decide) iX0_keep_2 rfl dX0_keep_32 ?_
  refine x_iconst (v := 1) B dX0_keep_35 (by decide) ?_
  refine x_iadd B dX0_keep_36 ?_
  refine x_bipush (v := 24) B dX0_keep_37 (by decide) ?_
  refine x_irem B dX0_keep_39 (by decide) ?_
  obtain ⟨σ10, u11, hf⟩ := x_ws hf
  refine x_put (v := (((σ8 16 3) + 1) - ((σ8 16 3) + 1) / 24 * 24)) (ty := .int) (kc := 16) (index := 19) B G.1 iX0_keep_cX0 tyX0 tyX0_ok nmX0 rfl (by decide) s_c16 3 (by decide) iX0_keep_2 rfl rfl rfl rfl (Nat.le_of_ble_eq_true rfl) (s_w0_3 _ _) dX0_keep_40 ?_
  refine x_nm u11 ?_
  refine x_aload_n B dX0_keep_43 rfl 0 rfl ?_
  refine x_aload_n B dX0_keep_44 rfl 0 rfl ?_
  refine x_get (v := .int (σ10 16 4)) (kc := 16) (index := 23) B G.1 iX0_keep_cX0 rfl (by decide) s_c16 4 (by decide) iX0_keep_5 rfl dX0_keep_45 ?_
  refine x_iconst (v := 1) B dX0_keep_48 (by decide) ?_
  refine x_iadd B dX0_keep_49 ?_
  refine x_bipush (v := 24) B dX0_keep_50 (by decide) ?_
  refine x_mmin B iX0_keep_6 iX0_keep_7 iX0_keep_8 iX0_keep_9 ⟨Nat.le_of_ble_eq_true rfl, Nat.le_of_ble_eq_true rfl⟩ ⟨Nat.zero_le _, Nat.zero_le _⟩ dX0_keep_52 ?_
  obtain ⟨σ12, u13, hf⟩ := x_ws hf
  refine x_put (v := (if 24 < ((σ10 16 4) + 1) then 24 else ((σ10 16 4) + 1))) (ty := .int) (kc := 16) (index := 23) B G.1 iX0_keep_cX0 tyX0 tyX0_ok nmX0 rfl (by decide) s_c16 4 (by decide) iX0_keep_5 rfl rfl rfl rfl (Nat.le_of_ble_eq_true rfl) (s_w0_4 _ _) dX0_keep_55 ?_
  refine x_nm u13 ?_
  obtain rfl := x_retV hf
  exact x_vret B hr dX0_keep_58
theorem iX0_takeBack_0 : Cond.fieldLink RX0 19 "SignDuty$Acts" "nextSlot" "I" ∈ wsX0_takeBack := by decide +kernel
theorem iX0_takeBack_cX0 : ∀ w ∈ u_ws RX0 TX0 5, w ∈ wsX0_takeBack := by decide +kernel
theorem iX0_takeBack_2 : Cond.fieldLink RX0 23 "SignDuty$Acts" "kept" "I" ∈ wsX0_takeBack := by decide +kernel
theorem iX0_takeBack_3 : Cond.fieldLink RX0 13 "SignDuty$Acts" "whats" "[I" ∈ wsX0_takeBack := by decide +kernel
theorem iX0_takeBack_4 : Cond.fieldLink RX0 16 "SignDuty$Acts" "values" "[I" ∈ wsX0_takeBack := by decide +kernel
theorem iX0_takeBack_5 : Cond.fieldLink RX0 9 "SignDuty$Acts" "deeds" "[I" ∈ wsX0_takeBack := by decide +kernel
theorem iX0_takeBack_6 : Cond.fieldLink RX0 32 "SignDuty$City" "made" "[I" ∈ wsX0_takeBack := by decide +kernel
theorem iX0_takeBack_cX2 : ∀ w ∈ u_ws RX2 TX2 13, w ∈ wsX0_takeBack := by decide +kernel
theorem iX0_takeBack_8 : Cond.fieldLink RX0 37 "SignDuty$City" "paid" "I" ∈ wsX0_takeBack := by decide +kernel
theorem iX0_takeBack_9 : Cond.fieldLink RX0 40 "SignDuty$City" "dim" "[I" ∈ wsX0_takeBack := by decide +kernel
theorem iX0_takeBack_10 : Cond.fieldLink RX0 43 "SignDuty$City" "inches" "[I" ∈ wsX0_takeBack := by decide +kernel
set_option maxRecDepth 100000 in
set_option maxHeartbeats 4000000 in
theorem mX0_takeBack {σ : x_S} {c1 : Nat} (hdis : x_dis s_N ad) (hc1 : s_iC c1) (hf : fX0_takeBack c1 σ = some σ0) : x_NV l yX0_takeBack wsX0_takeBack 1 D vwCl (s_tys cI cQ cC cZ) s_N (s_C cI cQ cC ad) ad (s_St aS) s_NW [.ref (ad 16), .ref (ad c1)] σ σ0 := by
  refine x_met (cc := cX0_takeBack) (own := RX0) (maxL := 4) (ret := none) (by decide +kernel) rfl rfl (Nat.le_of_ble_eq_true rfl) hdis (s_StOk aS) s_NwOk (fun p e s m args below meth c B G hr => ?_)
  unfold fX0_takeBack at hf
  refine x_sub (lv' := [(0, .ref (ad 16)), (1, .ref (ad c1))]) [0, 1] rfl ?_
  refine x_aload_n B dX0_takeBack_0 rfl 0 rfl ?_
  refine x_aload_n B dX0_takeBack_1 rfl 0 rfl ?_
  refine x_get (v := .int (σ 16 3)) (kc := 16) (index := 19) B G.1 iX0_takeBack_cX0 rfl (by decide) s_c16 3 (by decide) iX0_takeBack_0 rfl dX0_takeBack_2 ?_
  refine x_bipush (v := 24) B dX0_takeBack_5 (by decide) ?_
  refine x_iadd B dX0_takeBack_7 ?_
  refine x_iconst (v := 1) B dX0_takeBack_8 (by decide) ?_
  refine x_isub B dX0_takeBack_9 ?_
  refine x_bipush (v := 24) B dX0_takeBack_10 (by decide) ?_
  refine x_irem B dX0_takeBack_12 (by decide) ?_
  obtain ⟨σ1, u2, hf⟩ := x_ws hf
  refine x_put (v := ((((σ 16 3) + 24) - 1) - (((σ 16 3) + 24) - 1) / 24 * 24)) (ty := .int) (kc := 16) (index := 19) B G.1 iX0_takeBack_cX0 tyX0 tyX0_ok nmX0 rfl (by decide) s_c16 3 (by decide) iX0_takeBack_0 rfl rfl rfl rfl (Nat.le_of_ble_eq_true rfl) (s_w0_3 _ _) dX0_takeBack_13 ?_
  refine x_nm u2 ?_
  refine x_aload_n B dX0_takeBack_16 rfl 0 rfl ?_
  refine x_dup B dX0_takeBack_17 rfl ?_
  refine x_get (v := .int (σ1 16 4)) (kc := 16) (index := 23) B G.1 iX0_takeBack_cX0 rfl (by decide) s_c16 4 (by decide) iX0_takeBack_2 rfl dX0_takeBack_18 ?_
  refine x_iconst (v := 1) B dX0_takeBack_21 (by decide) ?_
  refine x_isub B dX0_takeBack_22 ?_
  obtain ⟨σ3, u4, hf⟩ := x_ws hf
  refine x_put (v := ((σ1 16 4) - 1)) (ty := .int) (kc := 16) (index := 23) B G.1 iX0_takeBack_cX0 tyX0 tyX0_ok nmX0 rfl (by decide) s_c16 4 (by decide) iX0_takeBack_2 rfl rfl rfl rfl (Nat.le_of_ble_eq_true rfl) (s_w0_4 _ _) dX0_takeBack_23 ?_
  refine x_nm u4 ?_
  refine x_aload_n B dX0_takeBack_26 rfl 0 rfl ?_
  refine x_get (v := .ref (ad 18)) (kc := 16) (index := 13) B G.1 iX0_takeBack_cX0 rfl (by decide) s_c16 1 (by decide) iX0_takeBack_3 rfl dX0_takeBack_27 ?_
  refine x_aload_n B dX0_takeBack_30 rfl 0 rfl ?_
  refine x_get (v := .int (σ3 16 3)) (kc := 16) (index := 19) B G.1 iX0_takeBack_cX0 rfl (by decide) s_c16 3 (by decide) iX0_takeBack_0 rfl dX0_takeBack_31 ?_
  obtain ⟨h5, hf⟩ := x_gs hf
  refine x_iald (kc := 18) (t0 := 0) B G.1 (by decide) s_c18 rfl h5 dX0_takeBack_34 ?_
  refine x_istore_n (lv' := [(2, .int (σ3 18 (σ3 16 3).toNatClampNeg)), (0, .ref (ad 16)), (1, .ref (ad c1))]) B dX0_takeBack_35 rfl (by decide) rfl ?_
  refine x_aload_n B dX0_takeBack_36 rfl 1 rfl ?_
  refine x_get (v := .ref (ad 19)) (kc := 16) (index := 16) B G.1 iX0_takeBack_cX0 rfl (by decide) s_c16 2 (by decide) iX0_takeBack_4 rfl dX0_takeBack_37 ?_
  refine x_aload_n B dX0_takeBack_40 rfl 1 rfl ?_
  refine x_get (v := .int (σ3 16 3)) (kc := 16) (index := 19) B G.1 iX0_takeBack_cX0 rfl (by decide) s_c16 3 (by decide) iX0_takeBack_0 rfl dX0_takeBack_41 ?_
  obtain ⟨h6, hf⟩ := x_gs hf
  refine x_iald (kc := 19) (t0 := 0) B G.1 (by decide) s_c19 rfl h6 dX0_takeBack_44 ?_
  refine x_istore_n (lv' := [(3, .int (σ3 19 (σ3 16 3).toNatClampNeg)), (2, .int (σ3 18 (σ3 16 3).toNatClampNeg)), (0, .ref (ad 16)), (1, .ref (ad c1))]) B dX0_takeBack_45 rfl (by decide) rfl ?_
  refine x_aload_n B dX0_takeBack_46 rfl 2 rfl ?_
  refine x_get (v := .ref (ad 17)) (kc := 16) (index := 9) B G.1 iX0_takeBack_cX0 rfl (by decide) s_c16 0 (by decide) iX0_takeBack_5 rfl dX0_takeBack_47 ?_
  refine x_aload_n B dX0_takeBack_50 rfl 2 rfl ?_
  refine x_get (v := .int (σ3 16 3)) (kc := 16) (index := 19) B G.1 iX0_takeBack_cX0 rfl (by decide) s_c16 3 (by decide) iX0_takeBack_0 rfl dX0_takeBack_51 ?_
  obtain ⟨h7, hf⟩ := x_gs hf
  refine x_iald (kc := 17) (t0 := 0) B G.1 (by decide) s_c17 rfl h7 dX0_takeBack_54 ?_
  by_cases h8 : (σ3 17 (σ3 16 3).toNatClampNeg) = 0
  · replace hf := x_it h8 hf
    refine x_tableIn (tgt := 84) (off := 29) B dX0_takeBack_55 (by rw [h8]; decide) (by rw [h8]; decide) (by rw [h8]; rfl) (by decide) ?_
    refine x_aload_n B dX0_takeBack_84 rfl 3 rfl ?_
    refine x_get (v := .ref (ad (c1 + 7))) (kc := c1) (index := 32) B G.1 iX0_takeBack_cX2 rfl (s_kC hc1) (s_cC hc1) 12 (by decide) iX0_takeBack_6 rfl dX0_takeBack_85 ?_
    refine x_iload_n B dX0_takeBack_88 rfl 1 rfl ?_
    refine x_dup2 B dX0_takeBack_89 rfl rfl ?_
    obtain ⟨h9, hf⟩ := x_gs hf
    refine x_iald (kc := c1 + 7) (t0 := 0) B G.1 (s_kC7 hc1) (s_cC7 hc1) rfl h9 dX0_takeBack_90 ?_
    refine x_iconst (v := 1) B dX0_takeBack_91 (by decide) ?_
    refine x_isub B dX0_takeBack_92 ?_
    obtain ⟨h10, hf⟩ := x_gs hf
    obtain ⟨σ11, u12, hf⟩ := x_ws hf
    refine x_iast (kc := c1 + 7) (t0 := 0) B G.1 (s_kC7 hc1) (s_cC7 hc1) rfl h10 dX0_takeBack_93 ?_
    refine x_nm u12 ?_
    refine x_aload_n B dX0_takeBack_94 rfl 3 rfl ?_
    refine x_dup B dX0_takeBack_95 rfl ?_
    refine x_get (v := .int (σ11 c1 2)) (kc := c1) (index := 37) B G.1 iX0_takeBack_cX2 rfl (s_kC hc1) (s_cC hc1) 2 (by decide) iX0_takeBack_8 rfl dX0_takeBack_96 ?_
    refine x_iload_n B dX0_takeBack_99 rfl 0 rfl ?_
    refine x_isub B dX0_takeBack_100 ?_
    obtain ⟨σ13, u14, hf⟩ := x_ws hf
    refine x_put (v := ((σ11 c1 2) - (σ3 19 (σ3 16 3).toNatClampNeg))) (ty := .int) (kc := c1) (index := 37) B G.1 iX0_takeBack_cX2 tyX2 tyX2_ok nmX2 rfl (s_kC hc1) (s_cC hc1) 2 (by decide) iX0_takeBack_8 rfl rfl rfl rfl (Nat.le_of_ble_eq_true rfl) (s_w2_2 _ _) dX0_takeBack_101 ?_
    refine x_nm u14 ?_
    refine x_goto (tgt := 138) B dX0_takeBack_104 (by decide) ?_
    obtain rfl := x_retV hf
    exact x_vret B hr dX0_takeBack_138
  · replace hf := x_if h8 hf
    by_cases h15 : (σ3 17 (σ3 16 3).toNatClampNeg) = 1
    · replace hf := x_it h15 hf
      refine x_tableIn (tgt := 107) (off := 52) B dX0_takeBack_55 (by rw [h15]; decide) (by rw [h15]; decide) (by rw [h15]; rfl) (by decide) ?_
      refine x_aload_n B dX0_takeBack_107 rfl 3 rfl ?_
      refine x_get (v := .ref (ad (c1 + 1))) (kc := c1) (index := 40) B G.1 iX0_takeBack_cX2 rfl (s_kC hc1) (s_cC hc1) 6 (by decide) iX0_takeBack_9 rfl dX0_takeBack_108 ?_
      refine x_iload_n B dX0_takeBack_111 rfl 1 rfl ?_
      refine x_iload_n B dX0_takeBack_112 rfl 0 rfl ?_
      obtain ⟨h16, hf⟩ := x_gs hf
      obtain ⟨σ17, u18, hf⟩ := x_ws hf
      refine x_iast (kc := c1 + 1) (t0 := 0) B G.1 (s_kC1 hc1) (s_cC1 hc1) rfl h16 dX0_takeBack_113 ?_
      refine x_nm u18 ?_
      refine x_goto (tgt := 138) B dX0_takeBack_114 (by decide) ?_
      obtain rfl := x_retV hf
      exact x_vret B hr dX0_takeBack_138
    · replace hf := x_if h15 hf
      by_cases h19 : (σ3 17 (σ3 16 3).toNatClampNeg) = 2
      · replace hf := x_it h19 hf
        refine x_tableIn (tgt := 117) (off := 62) B dX0_takeBack_55 (by rw [h19]; decide) (by rw [h19]; decide) (by rw [h19]; rfl) (by decide) ?_
        refine x_aload_n B dX0_takeBack_117 rfl 3 rfl ?_
        refine x_get (v := .ref (ad (c1 + 4))) (kc := c1) (index := 43) B G.1 iX0_takeBack_cX2 rfl (s_kC hc1) (s_cC hc1) 9 (by decide) iX0_takeBack_10 rfl dX0_takeBack_118 ?_
        refine x_iload_n B dX0_takeBack_121 rfl 1 rfl ?_
        refine x_dup2 B dX0_takeBack_122 rfl rfl ?_
        obtain ⟨h20, hf⟩ := x_gs hf
        refine x_iald (kc := c1 + 4) (t0 := 0) B G.1 (s_kC4 hc1) (s_cC4 hc1) rfl h20 dX0_takeBack_123 ?_
        refine x_iload_n B dX0_takeBack_124 rfl 0 rfl ?_
        refine x_iadd B dX0_takeBack_125 ?_
        obtain ⟨h21, hf⟩ := x_gs hf
        obtain ⟨σ22, u23, hf⟩ := x_ws hf
        refine x_iast (kc := c1 + 4) (t0 := 0) B G.1 (s_kC4 hc1) (s_cC4 hc1) rfl h21 dX0_takeBack_126 ?_
        refine x_nm u23 ?_
        refine x_goto (tgt := 138) B dX0_takeBack_127 (by decide) ?_
        obtain rfl := x_retV hf
        exact x_vret B hr dX0_takeBack_138
      · replace hf := x_if h19 hf
        by_cases h24 : (σ3 17 (σ3 16 3).toNatClampNeg) = 3
        · replace hf := x_it h24 hf
          refine x_tableIn (tgt := 130) (off := 75) B dX0_takeBack_55 (by rw [h24]; decide) (by rw [h24]; decide) (by rw [h24]; rfl) (by decide) ?_
          refine x_aload_n B dX0_takeBack_130 rfl 3 rfl ?_
          refine x_iload_n B dX0_takeBack_131 rfl 1 rfl ?_
          obtain ⟨σ26, e25, hf⟩ := x_vs hf
          refine x_callVv (As := [.int (σ3 18 (σ3 16 3).toNatClampNeg)]) (st := []) B G (mX2_turnKnown (l := l) G.1.2.1 hc1 e25) (cwV 1 B.2.2.2.2.1 gX0_takeBack_X2_turnKnown rfl rfl rfl hdX2_turnKnown (x_rm_ok (by omega) (by decide))) (s_kC hc1) (s_cC hc1) rfl rfl rfl (Nat.le_of_ble_eq_true rfl) ⟨Nat.zero_le _, Nat.zero_le _⟩ dX0_takeBack_132 ?_
          refine x_goto (tgt := 138) B dX0_takeBack_135 (by decide) ?_
          obtain rfl := x_retV hf
          exact x_vret B hr dX0_takeBack_138
        · replace hf := x_if h24 hf
          refine x_tableOut (tgt := 138) B dX0_takeBack_55 (by have g0 := lv_neT (a := 0) h8 rfl; have g1 := lv_neT (a := 1) h15 rfl; have g2 := lv_neT (a := 2) h19 rfl; have g3 := lv_neT (a := 3) h24 rfl; omega) (by decide) ?_
          obtain rfl := x_retV hf
          exact x_vret B hr dX0_takeBack_138
theorem iX6_offer_0 : Cond.fieldLink RX6 11 "SignDuty$Teller" "least" "[[I" ∈ wsX6_offer := by decide +kernel
theorem iX6_offer_cX6 : ∀ w ∈ u_ws RX6 TX6 1, w ∈ wsX6_offer := by decide +kernel
theorem iX6_offer_2 : Cond.methodLink RX6 48 Lib.Math.min.name ∈ wsX6_offer := by decide +kernel
theorem iX6_offer_3 : Cond.static Lib.Math.min.name ∈ wsX6_offer := by decide +kernel
theorem iX6_offer_4 : Cond.initialized "java/lang/Math" ∈ wsX6_offer := by decide +kernel
theorem iX6_offer_5 : Cond.code Lib.Math.min.name Lib.Math.min.code 2 (some .int) ∈ wsX6_offer := by decide +kernel
set_option maxRecDepth 100000 in
set_option maxHeartbeats 4000000 in
theorem qX6_offer_3 {σ : x_S} {x1 : Int32} {x2 : Int32} {x3 : Int32} {x4 : Int32} {x5 : Int32} {K3 : Int32 → x_S → Option x_S} (B : x_B p s m args meth c cX6_offer 6 wsX6_offer RX6) (G : x_H s D vwCl (s_tys cI cQ cC cZ) s_N ad (x_A s_N ad) (s_St aS) s_NW) (hr : meth.sig.returnType = none) (hK3 : ∀ (x5 : Int32) (σ : x_S), K3 x5 σ = some σ0 → x_J p l e (x_rm 1) s m args below meth c 0 0 (MQ below (x_Qv D vwCl s_N (s_C cI cQ cC ad) ad σ0) args s 0 0 (x_A s_N ad)) (x_A s_N ad) 6 (x_I D vwCl s_N (s_C cI cQ cC ad) ad σ) [(0, .ref (ad 20)), (1, .int x1), (2, .int x2), (3, .int x3), (4, .int x4), (5, .int x5)] [] 3) (hf : gX6_offer_3  x1 x2 x3 x4 K3 x5 σ = some σ0) : x_J p l e (x_rm 1) s m args below meth c 0 0 (MQ below (x_Qv D vwCl s_N (s_C cI cQ cC ad) ad σ0) args s 0 0 (x_A s_N ad)) (x_A s_N ad) 6 (x_I D vwCl s_N (s_C cI cQ cC ad) ad σ) [(0, .ref (ad 20)), (1, .int x1), (2, .int x2), (3, .int x3), (4, .int x4), (5, .int x5)] [] 3 := by
  unfold gX6_offer_3 at hf
  refine x_iload B dX6_offer_3 5 rfl ?_
  refine x_iload B dX6_offer_5 4 rfl ?_
  refine x_icmp_gt (tgt := 52) B dX6_offer_7 (by decide) (fun h1 => ?_) (fun h1 => ?_)
  · replace hf := x_it h1 hf
    obtain rfl := x_retV hf
    exact x_vret B hr dX6_offer_52
  · replace hf := x_if h1 hf
    refine x_aload_n B dX6_offer_10 rfl 0 rfl ?_
    refine x_get (v := .ref (ad 21)) (kc := 20) (index := 11) B G.1 iX6_offer_cX6 rfl (by decide) s_c20 0 (by decide) iX6_offer_0 rfl dX6_offer_11 ?_
    refine x_iload_n B dX6_offer_14 rfl 3 rfl ?_
    obtain ⟨h2, hf⟩ := x_gs hf
    refine x_aald (f := fun j => ad (22 + j)) (kc := 21) (t0 := 1) B G.1 (by decide) s_c21 rfl rfl h2 dX6_offer_15 ?_
    refine x_iload B dX6_offer_16 5 rfl ?_
    refine x_aload_n B dX6_offer_18 rfl 0 rfl ?_
    refine x_get (v := .ref (ad 21)) (kc := 20) (index := 11) B G.1 iX6_offer_cX6 rfl (by decide) s_c20 0 (by decide) iX6_offer_0 rfl dX6_offer_19 ?_
    refine x_iload_n B dX6_offer_22 rfl 3 rfl ?_
    obtain ⟨h3, hf⟩ := x_gs hf
    refine x_aald (f := fun j => ad (22 + j)) (kc := 21) (t0 := 1) B G.1 (by decide) s_c21 rfl rfl h3 dX6_offer_23 ?_
    refine x_iload B dX6_offer_24 5 rfl ?_
    obtain ⟨h4, hf⟩ := x_gs hf
    refine x_iald (kc := (22 + x3.toNatClampNeg)) (t0 := 0) B G.1 (s_kL h3) (s_cL h3) rfl h4 dX6_offer_26 ?_
    refine x_iload_n B dX6_offer_27 rfl 1 rfl ?_
    refine x_aload_n B dX6_offer_28 rfl 0 rfl ?_
    refine x_get (v := .ref (ad 21)) (kc := 20) (index := 11) B G.1 iX6_offer_cX6 rfl (by decide) s_c20 0 (by decide) iX6_offer_0 rfl dX6_offer_29 ?_
    refine x_iload_n B dX6_offer_32 rfl 3 rfl ?_
    refine x_iconst (v := 1) B dX6_offer_33 (by decide) ?_
    refine x_iadd B dX6_offer_34 ?_
    obtain ⟨h5, hf⟩ := x_gs hf
    refine x_aald (f := fun j => ad (22 + j)) (kc := 21) (t0 := 1) B G.1 (by decide) s_c21 rfl rfl h5 dX6_offer_35 ?_
    refine x_iload B dX6_offer_36 5 rfl ?_
    refine x_iload_n B dX6_offer_38 rfl 2 rfl ?_
    refine x_isub B dX6_offer_39 ?_
    obtain ⟨h6, hf⟩ := x_gs hf
    refine x_iald (kc := (22 + (x3 + 1).toNatClampNeg)) (t0 := 0) B G.1 (s_kL h5) (s_cL h5) rfl h6 dX6_offer_40 ?_
    refine x_iadd B dX6_offer_41 ?_
    refine x_mmin B iX6_offer_2 iX6_offer_3 iX6_offer_4 iX6_offer_5 ⟨Nat.le_of_ble_eq_true rfl, Nat.le_of_ble_eq_true rfl⟩ ⟨Nat.zero_le _, Nat.zero_le _⟩ dX6_offer_42 ?_
    obtain ⟨h7, hf⟩ := x_gs hf
    obtain ⟨σ8, u9, hf⟩ := x_ws hf
    refine x_iast (kc := (22 + x3.toNatClampNeg)) (t0 := 0) B G.1 (s_kL h2) (s_cL h2) rfl h7 dX6_offer_45 ?_
    refine x_nm u9 ?_
    refine x_iinc (v := (x5 + 1)) (lv' := [(5, .int (x5 + 1)), (0, .ref (ad 20)), (1, .int x1), (2, .int x2), (3, .int x3), (4, .int x4)]) B dX6_offer_46 5 rfl rfl (by decide) rfl ?_
    refine x_goto (tgt := 3) B dX6_offer_49 (by decide) ?_
    refine x_sub [1, 2, 3, 4, 5, 0] rfl ?_
    exact hK3 _ _ hf
set_option maxRecDepth 100000 in
set_option maxHeartbeats 4000000 in
theorem kX6_offer_3 {σ : x_S} {x1 : Int32} {x2 : Int32} {x3 : Int32} {x4 : Int32} {x5 : Int32} (B : x_B p s m args meth c cX6_offer 6 wsX6_offer RX6) (G : x_H s D vwCl (s_tys cI cQ cC cZ) s_N ad (x_A s_N ad) (s_St aS) s_NW) (hr : meth.sig.returnType = none) (hf : bX6_offer_3  x1 x2 x3 x4 x5 σ = some σ0) : x_J p l e (x_rm 1) s m args below meth c 0 0 (MQ below (x_Qv D vwCl s_N (s_C cI cQ cC ad) ad σ0) args s 0 0 (x_A s_N ad)) (x_A s_N ad) 6 (x_I D vwCl s_N (s_C cI cQ cC ad) ad σ) [(0, .ref (ad 20)), (1, .int x1), (2, .int x2), (3, .int x3), (4, .int x4), (5, .int x5)] [] 3 := by
  have key : ∀ (n : Nat) (x5 : Int32) (σ : x_S), x_fx (α := Int32 → x_S → Option x_S) (fun _ _ => none) (fun K => fun x5 σ => gX6_offer_3  x1 x2 x3 x4 K x5 σ) n x5 σ = some σ0 → x_J p l e (x_rm 1) s m args below meth c 0 0 (MQ below (x_Qv D vwCl s_N (s_C cI cQ cC ad) ad σ0) args s 0 0 (x_A s_N ad)) (x_A s_N ad) 6 (x_I D vwCl s_N (s_C cI cQ cC ad) ad σ) [(0, .ref (ad 20)), (1, .int x1), (2, .int x2), (3, .int x3), (4, .int x4), (5, .int x5)] [] 3 := by
    intro n
    induction n with
    | zero => intro x5 σ h; cases h
    | succ n ih => intro x5 σ h; exact qX6_offer_3 B G hr  ih  h
  exact key x_F x5 σ hf
set_option maxRecDepth 100000 in
set_option maxHeartbeats 4000000 in
theorem mX6_offer {σ : x_S} {a1 : Int32} {a2 : Int32} {a3 : Int32} {a4 : Int32} (hdis : x_dis s_N ad) (hf : fX6_offer a1 a2 a3 a4 σ = some σ0) : x_NV l yX6_offer wsX6_offer 1 D vwCl (s_tys cI cQ cC cZ) s_N (s_C cI cQ cC ad) ad (s_St aS) s_NW [.ref (ad 20), .int a1, .int a2, .int a3, .int a4] σ σ0 := by
  refine x_met (cc := cX6_offer) (own := RX6) (maxL := 6) (ret := none) (by decide +kernel) rfl rfl (Nat.le_of_ble_eq_true rfl) hdis (s_StOk aS) s_NwOk (fun p e s m args below meth c B G hr => ?_)
  unfold fX6_offer at hf
  refine x_sub (lv' := [(0, .ref (ad 20)), (1, .int a1), (2, .int a2), (3, .int a3), (4, .int a4)]) [0, 1, 2, 3, 4] rfl ?_
  refine x_iload_n B dX6_offer_0 rfl 2 rfl ?_
  refine x_istore (lv' := [(5, .int a2), (0, .ref (ad 20)), (1, .int a1), (2, .int a2), (3, .int a3), (4, .int a4)]) B dX6_offer_1 (by decide) rfl ?_
  refine x_sub [1, 2, 3, 4, 5, 0] rfl ?_
  exact kX6_offer_3 B G hr hf
theorem iX6_fill_0 : Cond.fieldLink RX6 32 "SignDuty$City" "gestures" "I" ∈ wsX6_fill := by decide +kernel
theorem iX6_fill_cX2 : ∀ w ∈ u_ws RX2 TX2 13, w ∈ wsX6_fill := by decide +kernel
theorem iX6_fill_2 : Cond.fieldLink RX6 26 "SignDuty$City" "takes" "[I" ∈ wsX6_fill := by decide +kernel
theorem iX6_fill_3 : Cond.fieldLink RX6 11 "SignDuty$Teller" "least" "[[I" ∈ wsX6_fill := by decide +kernel
theorem iX6_fill_cX6 : ∀ w ∈ u_ws RX6 TX6 1, w ∈ wsX6_fill := by decide +kernel
theorem iX6_fill_5 : Cond.constant RX6 20 1000000 ∈ wsX6_fill := by decide +kernel
set_option maxRecDepth 100000 in
set_option maxHeartbeats 4000000 in
theorem qX6_fill_70 {σ : x_S} {K33 : Int32 → x_S → Option x_S} {c1 : Nat} {x2 : Int32} {x3 : Int32} {x5 : Int32} {x6 : Int32} {x7 : Int32} {K70 : Int32 → x_S → Option x_S} (B : x_B p s m args meth c cX6_fill 8 wsX6_fill RX6) (G : x_H s D vwCl (s_tys cI cQ cC cZ) s_N ad (x_A s_N ad) (s_St aS) s_NW) (hr : meth.sig.returnType = none) (hK33 : ∀ (x6 : Int32) (σ : x_S), K33 x6 σ = some σ0 → x_J p l e (x_rm 4) s m args below meth c 0 0 (MQ below (x_Qv D vwCl s_N (s_C cI cQ cC ad) ad σ0) args s 0 0 (x_A s_N ad)) (x_A s_N ad) 8 (x_I D vwCl s_N (s_C cI cQ cC ad) ad σ) [(0, .ref (ad 20)), (1, .ref (ad c1)), (2, .int x2), (3, .int x3), (5, .int x5), (6, .int x6)] [] 33) (hK70 : ∀ (x7 : Int32) (σ : x_S), K70 x7 σ = some σ0 → x_J p l e (x_rm 4) s m args below meth c 0 0 (MQ below (x_Qv D vwCl s_N (s_C cI cQ cC ad) ad σ0) args s 0 0 (x_A s_N ad)) (x_A s_N ad) 8 (x_I D vwCl s_N (s_C cI cQ cC ad) ad σ) [(0, .ref (ad 20)), (1, .ref (ad c1)), (2, .int x2), (3, .int x3), (5, .int x5), (6, .int x6), (7, .int x7)] [] 70) (hc1 : s_iC c1) (hf : gX6_fill_70 K33 c1 x2 x3 x5 x6 K70 x7 σ = some σ0) : x_J p l e (x_rm 4) s m args below meth c 0 0 (MQ below (x_Qv D vwCl s_N (s_C cI cQ cC ad) ad σ0) args s 0 0 (x_A s_N ad)) (x_A s_N ad) 8 (x_I D vwCl s_N (s_C cI cQ cC ad) ad σ) [(0, .ref (ad 20)), (1, .ref (ad c1)), (2, .int x2), (3, .int x3), (5, .int x5), (6, .int x6), (7, .int x7)] [] 70 := by
  unfold gX6_fill_70 at hf
  refine x_iload B dX6_fill_70 6 rfl ?_
  refine x_aload_n B dX6_fill_72 rfl 1 rfl ?_
  refine x_get (v := .int (σ c1 5)) (kc := c1) (index := 32) B G.1 iX6_fill_cX2 rfl (s_kC hc1) (s_cC hc1) 5 (by decide) iX6_fill_0 rfl dX6_fill_73 ?_
  refine x_icmp_ge (tgt := 120) B dX6_fill_76 (by decide) (fun h1 => ?_) (fun h1 => ?_)
  · replace hf := x_it h1 hf
    refine x_iinc (v := (x6 + (-1))) (lv' := [(6, .int (x6 + (-1))), (0, .ref (ad 20)), (1, .ref (ad c1)), (2, .int x2), (3, .int x3), (5, .int x5), (7, .int x7)]) B dX6_fill_120 5 rfl rfl (by decide) rfl ?_
    refine x_goto (tgt := 33) B dX6_fill_123 (by decide) ?_
    refine x_sub [1, 2, 3, 4, 5, 0] rfl ?_
    exact hK33 _ _ hf
  · replace hf := x_if h1 hf
    refine x_aload_n B dX6_fill_79 rfl 1 rfl ?_
    refine x_iload B dX6_fill_80 6 rfl ?_
    refine x_iload_n B dX6_fill_82 rfl 2 rfl ?_
    refine x_iload B dX6_fill_83 5 rfl ?_
    obtain ⟨r3, e2, hf⟩ := x_ps hf
    refine x_callV (As := [.int x7, .int x2, .int x6]) (st := []) B G (mX2_tells (l := l) G.1.2.1 hc1 e2) (cwV 3 B.2.2.2.2.1 gX6_fill_X2_tells rfl rfl rfl hdX2_tells (x_rm_ok (by omega) (by decide))) (s_kC hc1) (s_cC hc1) rfl rfl rfl (Nat.le_of_ble_eq_true rfl) ⟨Nat.zero_le _, Nat.zero_le _⟩ dX6_fill_85 ?_
    refine x_if_eq (tgt := 114) B dX6_fill_88 (by decide) (fun h4 => ?_) (fun h4 => ?_)
    · replace hf := x_it h4 hf
      refine x_iinc (v := (x7 + 1)) (lv' := [(7, .int (x7 + 1)), (0, .ref (ad 20)), (1, .ref (ad c1)), (2, .int x2), (3, .int x3), (5, .int x5), (6, .int x6)]) B dX6_fill_114 6 rfl rfl (by decide) rfl ?_
      refine x_goto (tgt := 70) B dX6_fill_117 (by decide) ?_
      refine x_sub [1, 2, 3, 4, 5, 6, 0] rfl ?_
      exact hK70 _ _ hf
    · replace hf := x_if h4 hf
      refine x_aload_n B dX6_fill_91 rfl 0 rfl ?_
      refine x_aload_n B dX6_fill_92 rfl 1 rfl ?_
      refine x_iload B dX6_fill_93 6 rfl ?_
      refine x_iload B dX6_fill_95 5 rfl ?_
      obtain ⟨r6, e5, hf⟩ := x_ps hf
      refine x_callV (As := [.int x7, .int x6]) (st := [.ref (ad 20)]) B G (mX2_owes (l := l) G.1.2.1 hc1 e5) (cwV 2 B.2.2.2.2.1 gX6_fill_X2_owes rfl rfl rfl hdX2_owes (x_rm_ok (by omega) (by decide))) (s_kC hc1) (s_cC hc1) rfl rfl rfl (Nat.le_of_ble_eq_true rfl) ⟨Nat.zero_le _, Nat.zero_le _⟩ dX6_fill_97 ?_
      refine x_aload_n B dX6_fill_100 rfl 1 rfl ?_
      refine x_get (v := .ref (ad (c1 + 6))) (kc := c1) (index := 26) B G.1 iX6_fill_cX2 rfl (s_kC hc1) (s_cC hc1) 11 (by decide) iX6_fill_2 rfl dX6_fill_101 ?_
      refine x_iload B dX6_fill_104 6 rfl ?_
      obtain ⟨h7, hf⟩ := x_gs hf
      refine x_iald (kc := c1 + 6) (t0 := 0) B G.1 (s_kC6 hc1) (s_cC6 hc1) rfl h7 dX6_fill_106 ?_
      refine x_iload B dX6_fill_107 5 rfl ?_
      refine x_iload B dX6_fill_109 4 rfl ?_
      obtain ⟨σ9, e8, hf⟩ := x_vs hf
      refine x_callVv (As := [.int r6, .int (σ (c1 + 6) x7.toNatClampNeg), .int x6, .int x5]) (st := []) B G (mX6_offer (l := l) G.1.2.1  e8) (cwV 4 B.2.2.2.2.1 gX6_fill_X6_offer rfl rfl rfl hdX6_offer (x_rm_ok (by omega) (by decide))) (by decide) s_c20 rfl rfl rfl (Nat.le_of_ble_eq_true rfl) ⟨Nat.zero_le _, Nat.zero_le _⟩ dX6_fill_111 ?_
      refine x_iinc (v := (x7 + 1)) (lv' := [(7, .int (x7 + 1)), (0, .ref (ad 20)), (1, .ref (ad c1)), (2, .int x2), (3, .int x3), (5, .int x5), (6, .int x6)]) B dX6_fill_114 6 rfl rfl (by decide) rfl ?_
      refine x_goto (tgt := 70) B dX6_fill_117 (by decide) ?_
      refine x_sub [1, 2, 3, 4, 5, 6, 0] rfl ?_
      exact hK70 _ _ hf
set_option maxRecDepth 100000 in
set_option maxHeartbeats 4000000 in
theorem kX6_fill_70 {σ : x_S} {K33 : Int32 → x_S → Option x_S} {c1 : Nat} {x2 : Int32} {x3 : Int32} {x5 : Int32} {x6 : Int32} {x7 : Int32} (B : x_B p s m args meth c cX6_fill 8 wsX6_fill RX6) (G : x_H s D vwCl (s_tys cI cQ cC cZ) s_N ad (x_A s_N ad) (s_St aS) s_NW) (hr : meth.sig.returnType = none) (hK33 : ∀ (x6 : Int32) (σ : x_S), K33 x6 σ = some σ0 → x_J p l e (x_rm 4) s m args below meth c 0 0 (MQ below (x_Qv D vwCl s_N (s_C cI cQ cC ad) ad σ0) args s 0 0 (x_A s_N ad)) (x_A s_N ad) 8 (x_I D vwCl s_N (s_C cI cQ cC ad) ad σ) [(0, .ref (ad 20)), (1, .ref (ad c1)), (2, .int x2), (3, .int x3), (5, .int x5), (6, .int x6)] [] 33) (hc1 : s_iC c1) (hf : bX6_fill_70 K33 c1 x2 x3 x5 x6 x7 σ = some σ0) : x_J p l e (x_rm 4) s m args below meth c 0 0 (MQ below (x_Qv D vwCl s_N (s_C cI cQ cC ad) ad σ0) args s 0 0 (x_A s_N ad)) (x_A s_N ad) 8 (x_I D vwCl s_N (s_C cI cQ cC ad) ad σ) [(0, .ref (ad 20)), (1, .ref (ad c1)), (2, .int x2), (3, .int x3), (5, .int x5), (6, .int x6), (7, .int x7)] [] 70 := by
  have key : ∀ (n : Nat) (x7 : Int32) (σ : x_S), x_fx (α := Int32 → x_S → Option x_S) (fun _ _ => none) (fun K => fun x7 σ => gX6_fill_70 K33 c1 x2 x3 x5 x6 K x7 σ) n x7 σ = some σ0 → x_J p l e (x_rm 4) s m args below meth c 0 0 (MQ below (x_Qv D vwCl s_N (s_C cI cQ cC ad) ad σ0) args s 0 0 (x_A s_N ad)) (x_A s_N ad) 8 (x_I D vwCl s_N (s_C cI cQ cC ad) ad σ) [(0, .ref (ad 20)), (1, .ref (ad c1)), (2, .int x2), (3, .int x3), (5, .int x5), (6, .int x6), (7, .int x7)] [] 70 := by
    intro n
    induction n with
    | zero => intro x7 σ h; cases h
    | succ n ih => intro x7 σ h; exact qX6_fill_70 B G hr hK33 ih hc1 h
  exact key x_F x7 σ hf
set_option maxRecDepth 100000 in
set_option maxHeartbeats 4000000 in
theorem qX6_fill_42 {σ : x_S} {K33 : Int32 → x_S → Option x_S} {c1 : Nat} {x2 : Int32} {x3 : Int32} {x5 : Int32} {x6 : Int32} {x7 : Int32} {K42 : Int32 → x_S → Option x_S} (B : x_B p s m args meth c cX6_fill 8 wsX6_fill RX6) (G : x_H s D vwCl (s_tys cI cQ cC cZ) s_N ad (x_A s_N ad) (s_St aS) s_NW) (hr : meth.sig.returnType = none) (hK33 : ∀ (x6 : Int32) (σ : x_S), K33 x6 σ = some σ0 → x_J p l e (x_rm 4) s m args below meth c 0 0 (MQ below (x_Qv D vwCl s_N (s_C cI cQ cC ad) ad σ0) args s 0 0 (x_A s_N ad)) (x_A s_N ad) 8 (x_I D vwCl s_N (s_C cI cQ cC ad) ad σ) [(0, .ref (ad 20)), (1, .ref (ad c1)), (2, .int x2), (3, .int x3), (5, .int x5), (6, .int x6)] [] 33) (hK42 : ∀ (x7 : Int32) (σ : x_S), K42 x7 σ = some σ0 → x_J p l e (x_rm 4) s m args below meth c 0 0 (MQ below (x_Qv D vwCl s_N (s_C cI cQ cC ad) ad σ0) args s 0 0 (x_A s_N ad)) (x_A s_N ad) 8 (x_I D vwCl s_N (s_C cI cQ cC ad) ad σ) [(0, .ref (ad 20)), (1, .ref (ad c1)), (2, .int x2), (3, .int x3), (5, .int x5), (6, .int x6), (7, .int x7)] [] 42) (hc1 : s_iC c1) (hf : gX6_fill_42 K33 c1 x2 x3 x5 x6 K42 x7 σ = some σ0) : x_J p l e (x_rm 4) s m args below meth c 0 0 (MQ below (x_Qv D vwCl s_N (s_C cI cQ cC ad) ad σ0) args s 0 0 (x_A s_N ad)) (x_A s_N ad) 8 (x_I D vwCl s_N (s_C cI cQ cC ad) ad σ) [(0, .ref (ad 20)), (1, .ref (ad c1)), (2, .int x2), (3, .int x3), (5, .int x5), (6, .int x6), (7, .int x7)] [] 42 := by
  unfold gX6_fill_42 at hf
  refine x_iload B dX6_fill_42 6 rfl ?_
  refine x_iload B dX6_fill_44 4 rfl ?_
  refine x_icmp_gt (tgt := 67) B dX6_fill_46 (by decide) (fun h1 => ?_) (fun h1 => ?_)
  · replace hf := x_it h1 hf
    refine x_iconst (v := 0) B dX6_fill_67 (by decide) ?_
    refine x_istore (lv' := [(7, .int 0), (0, .ref (ad 20)), (1, .ref (ad c1)), (2, .int x2), (3, .int x3), (5, .int x5), (6, .int x6)]) B dX6_fill_68 (by decide) rfl ?_
    refine x_sub [1, 2, 3, 4, 5, 6, 0] rfl ?_
    exact kX6_fill_70 B G hr hK33 hc1 hf
  · replace hf := x_if h1 hf
    refine x_aload_n B dX6_fill_49 rfl 0 rfl ?_
    refine x_get (v := .ref (ad 21)) (kc := 20) (index := 11) B G.1 iX6_fill_cX6 rfl (by decide) s_c20 0 (by decide) iX6_fill_3 rfl dX6_fill_50 ?_
    refine x_iload B dX6_fill_53 5 rfl ?_
    obtain ⟨h2, hf⟩ := x_gs hf
    refine x_aald (f := fun j => ad (22 + j)) (kc := 21) (t0 := 1) B G.1 (by decide) s_c21 rfl rfl h2 dX6_fill_55 ?_
    refine x_iload B dX6_fill_56 6 rfl ?_
    refine x_ldc (v := 1000000) B iX6_fill_5 dX6_fill_58 ?_
    obtain ⟨h3, hf⟩ := x_gs hf
    obtain ⟨σ4, u5, hf⟩ := x_ws hf
    refine x_iast (kc := (22 + x6.toNatClampNeg)) (t0 := 0) B G.1 (s_kL h2) (s_cL h2) rfl h3 dX6_fill_60 ?_
    refine x_nm u5 ?_
    refine x_iinc (v := (x7 + 1)) (lv' := [(7, .int (x7 + 1)), (0, .ref (ad 20)), (1, .ref (ad c1)), (2, .int x2), (3, .int x3), (5, .int x5), (6, .int x6)]) B dX6_fill_61 6 rfl rfl (by decide) rfl ?_
    refine x_goto (tgt := 42) B dX6_fill_64 (by decide) ?_
    refine x_sub [1, 2, 3, 4, 5, 6, 0] rfl ?_
    exact hK42 _ _ hf
set_option maxRecDepth 100000 in
set_option maxHeartbeats 4000000 in
theorem kX6_fill_42 {σ : x_S} {K33 : Int32 → x_S → Option x_S} {c1 : Nat} {x2 : Int32} {x3 : Int32} {x5 : Int32} {x6 : Int32} {x7 : Int32} (B : x_B p s m args meth c cX6_fill 8 wsX6_fill RX6) (G : x_H s D vwCl (s_tys cI cQ cC cZ) s_N ad (x_A s_N ad) (s_St aS) s_NW) (hr : meth.sig.returnType = none) (hK33 : ∀ (x6 : Int32) (σ : x_S), K33 x6 σ = some σ0 → x_J p l e (x_rm 4) s m args below meth c 0 0 (MQ below (x_Qv D vwCl s_N (s_C cI cQ cC ad) ad σ0) args s 0 0 (x_A s_N ad)) (x_A s_N ad) 8 (x_I D vwCl s_N (s_C cI cQ cC ad) ad σ) [(0, .ref (ad 20)), (1, .ref (ad c1)), (2, .int x2), (3, .int x3), (5, .int x5), (6, .int x6)] [] 33) (hc1 : s_iC c1) (hf : bX6_fill_42 K33 c1 x2 x3 x5 x6 x7 σ = some σ0) : x_J p l e (x_rm 4) s m args below meth c 0 0 (MQ below (x_Qv D vwCl s_N (s_C cI cQ cC ad) ad σ0) args s 0 0 (x_A s_N ad)) (x_A s_N ad) 8 (x_I D vwCl s_N (s_C cI cQ cC ad) ad σ) [(0, .ref (ad 20)), (1, .ref (ad c1)), (2, .int x2), (3, .int x3), (5, .int x5), (6, .int x6), (7, .int x7)] [] 42 := by
  have key : ∀ (n : Nat) (x7 : Int32) (σ : x_S), x_fx (α := Int32 → x_S → Option x_S) (fun _ _ => none) (fun K => fun x7 σ => gX6_fill_42 K33 c1 x2 x3 x5 x6 K x7 σ) n x7 σ = some σ0 → x_J p l e (x_rm 4) s m args below meth c 0 0 (MQ below (x_Qv D vwCl s_N (s_C cI cQ cC ad) ad σ0) args s 0 0 (x_A s_N ad)) (x_A s_N ad) 8 (x_I D vwCl s_N (s_C cI cQ cC ad) ad σ) [(0, .ref (ad 20)), (1, .ref (ad c1)), (2, .int x2), (3, .int x3), (5, .int x5), (6, .int x6), (7, .int x7)] [] 42 := by
    intro n
    induction n with
    | zero => intro x7 σ h; cases h
    | succ n ih => intro x7 σ h; exact qX6_fill_42 B G hr hK33 ih hc1 h
  exact key x_F x7 σ hf
set_option maxRecDepth 100000 in
set_option maxHeartbeats 4000000 in
theorem qX6_fill_33 {σ : x_S} {c1 : Nat} {x2 : Int32} {x3 : Int32} {x5 : Int32} {x6 : Int32} {K33 : Int32 → x_S → Option x_S} (B : x_B p s m args meth c cX6_fill 8 wsX6_fill RX6) (G : x_H s D vwCl (s_tys cI cQ cC cZ) s_N ad (x_A s_N ad) (s_St aS) s_NW) (hr : meth.sig.returnType = none) (hK33 : ∀ (x6 : Int32) (σ : x_S), K33 x6 σ = some σ0 → x_J p l e (x_rm 4) s m args below meth c 0 0 (MQ below (x_Qv D vwCl s_N (s_C cI cQ cC ad) ad σ0) args s 0 0 (x_A s_N ad)) (x_A s_N ad) 8 (x_I D vwCl s_N (s_C cI cQ cC ad) ad σ) [(0, .ref (ad 20)), (1, .ref (ad c1)), (2, .int x2), (3, .int x3), (5, .int x5), (6, .int x6)] [] 33) (hc1 : s_iC c1) (hf : gX6_fill_33  c1 x2 x3 x5 K33 x6 σ = some σ0) : x_J p l e (x_rm 4) s m args below meth c 0 0 (MQ below (x_Qv D vwCl s_N (s_C cI cQ cC ad) ad σ0) args s 0 0 (x_A s_N ad)) (x_A s_N ad) 8 (x_I D vwCl s_N (s_C cI cQ cC ad) ad σ) [(0, .ref (ad 20)), (1, .ref (ad c1)), (2, .int x2), (3, .int x3), (5, .int x5), (6, .int x6)] [] 33 := by
  unfold gX6_fill_33 at hf
  refine x_iload B dX6_fill_33 5 rfl ?_
  refine x_iload_n B dX6_fill_35 rfl 3 rfl ?_
  refine x_icmp_lt (tgt := 126) B dX6_fill_36 (by decide) (fun h1 => ?_) (fun h1 => ?_)
  · replace hf := x_it h1 hf
    obtain rfl := x_retV hf
    exact x_vret B hr dX6_fill_126
  · replace hf := x_if h1 hf
    refine x_iconst (v := 0) B dX6_fill_39 (by decide) ?_
    refine x_istore (lv' := [(7, .int 0), (0, .ref (ad 20)), (1, .ref (ad c1)), (2, .int x2), (3, .int x3), (5, .int x5), (6, .int x6)]) B dX6_fill_40 (by decide) rfl ?_
    refine x_sub [1, 2, 3, 4, 5, 6, 0] rfl ?_
    exact kX6_fill_42 B G hr hK33 hc1 hf
set_option maxRecDepth 100000 in
set_option maxHeartbeats 4000000 in
theorem kX6_fill_33 {σ : x_S} {c1 : Nat} {x2 : Int32} {x3 : Int32} {x5 : Int32} {x6 : Int32} (B : x_B p s m args meth c cX6_fill 8 wsX6_fill RX6) (G : x_H s D vwCl (s_tys cI cQ cC cZ) s_N ad (x_A s_N ad) (s_St aS) s_NW) (hr : meth.sig.returnType = none) (hc1 : s_iC c1) (hf : bX6_fill_33  c1 x2 x3 x5 x6 σ = some σ0) : x_J p l e (x_rm 4) s m args below meth c 0 0 (MQ below (x_Qv D vwCl s_N (s_C cI cQ cC ad) ad σ0) args s 0 0 (x_A s_N ad)) (x_A s_N ad) 8 (x_I D vwCl s_N (s_C cI cQ cC ad) ad σ) [(0, .ref (ad 20)), (1, .ref (ad c1)), (2, .int x2), (3, .int x3), (5, .int x5), (6, .int x6)] [] 33 := by
  have key : ∀ (n : Nat) (x6 : Int32) (σ : x_S), x_fx (α := Int32 → x_S → Option x_S) (fun _ _ => none) (fun K => fun x6 σ => gX6_fill_33  c1 x2 x3 x5 K x6 σ) n x6 σ = some σ0 → x_J p l e (x_rm 4) s m args below meth c 0 0 (MQ below (x_Qv D vwCl s_N (s_C cI cQ cC ad) ad σ0) args s 0 0 (x_A s_N ad)) (x_A s_N ad) 8 (x_I D vwCl s_N (s_C cI cQ cC ad) ad σ) [(0, .ref (ad 20)), (1, .ref (ad c1)), (2, .int x2), (3, .int x3), (5, .int x5), (6, .int x6)] [] 33 := by
    intro n
    induction n with
    | zero => intro x6 σ h; cases h
    | succ n ih => intro x6 σ h; exact qX6_fill_33 B G hr  ih hc1 h
  exact key x_F x6 σ hf
set_option maxRecDepth 100000 in
set_option maxHeartbeats 4000000 in
theorem qX6_fill_3 {σ : x_S} {c1 : Nat} {x2 : Int32} {x3 : Int32} {x4 : Int32} {x5 : Int32} {x6 : Int32} {K3 : Int32 → x_S → Option x_S} (B : x_B p s m args meth c cX6_fill 8 wsX6_fill RX6) (G : x_H s D vwCl (s_tys cI cQ cC cZ) s_N ad (x_A s_N ad) (s_St aS) s_NW) (hr : meth.sig.returnType = none) (hK3 : ∀ (x6 : Int32) (σ : x_S), K3 x6 σ = some σ0 → x_J p l e (x_rm 4) s m args below meth c 0 0 (MQ below (x_Qv D vwCl s_N (s_C cI cQ cC ad) ad σ0) args s 0 0 (x_A s_N ad)) (x_A s_N ad) 8 (x_I D vwCl s_N (s_C cI cQ cC ad) ad σ) [(0, .ref (ad 20)), (1, .ref (ad c1)), (2, .int x2), (3, .int x3), (4, .int x4), (5, .int x5), (6, .int x6)] [] 3) (hc1 : s_iC c1) (hf : gX6_fill_3  c1 x2 x3 x4 x5 K3 x6 σ = some σ0) : x_J p l e (x_rm 4) s m args below meth c 0 0 (MQ below (x_Qv D vwCl s_N (s_C cI cQ cC ad) ad σ0) args s 0 0 (x_A s_N ad)) (x_A s_N ad) 8 (x_I D vwCl s_N (s_C cI cQ cC ad) ad σ) [(0, .ref (ad 20)), (1, .ref (ad c1)), (2, .int x2), (3, .int x3), (4, .int x4), (5, .int x5), (6, .int x6)] [] 3 := by
  unfold gX6_fill_3 at hf
  refine x_iload B dX6_fill_3 6 rfl ?_
  refine x_iload B dX6_fill_5 5 rfl ?_
  refine x_icmp_gt (tgt := 29) B dX6_fill_7 (by decide) (fun h1 => ?_) (fun h1 => ?_)
  · replace hf := x_it h1 hf
    refine x_iload B dX6_fill_29 4 rfl ?_
    refine x_istore (lv' := [(6, .int x4), (0, .ref (ad 20)), (1, .ref (ad c1)), (2, .int x2), (3, .int x3), (4, .int x4), (5, .int x5)]) B dX6_fill_31 (by decide) rfl ?_
    refine x_sub [1, 2, 3, 4, 6, 0] rfl ?_
    exact kX6_fill_33 B G hr hc1 hf
  · replace hf := x_if h1 hf
    refine x_aload_n B dX6_fill_10 rfl 0 rfl ?_
    refine x_get (v := .ref (ad 21)) (kc := 20) (index := 11) B G.1 iX6_fill_cX6 rfl (by decide) s_c20 0 (by decide) iX6_fill_3 rfl dX6_fill_11 ?_
    refine x_iload B dX6_fill_14 4 rfl ?_
    refine x_iconst (v := 1) B dX6_fill_16 (by decide) ?_
    refine x_iadd B dX6_fill_17 ?_
    obtain ⟨h2, hf⟩ := x_gs hf
    refine x_aald (f := fun j => ad (22 + j)) (kc := 21) (t0 := 1) B G.1 (by decide) s_c21 rfl rfl h2 dX6_fill_18 ?_
    refine x_iload B dX6_fill_19 6 rfl ?_
    refine x_iconst (v := 0) B dX6_fill_21 (by decide) ?_
    obtain ⟨h3, hf⟩ := x_gs hf
    obtain ⟨σ4, u5, hf⟩ := x_ws hf
    refine x_iast (kc := (22 + (x4 + 1).toNatClampNeg)) (t0 := 0) B G.1 (s_kL h2) (s_cL h2) rfl h3 dX6_fill_22 ?_
    refine x_nm u5 ?_
    refine x_iinc (v := (x6 + 1)) (lv' := [(6, .int (x6 + 1)), (0, .ref (ad 20)), (1, .ref (ad c1)), (2, .int x2), (3, .int x3), (4, .int x4), (5, .int x5)]) B dX6_fill_23 6 rfl rfl (by decide) rfl ?_
    refine x_goto (tgt := 3) B dX6_fill_26 (by decide) ?_
    refine x_sub [1, 2, 3, 4, 5, 6, 0] rfl ?_
    exact hK3 _ _ hf
set_option maxRecDepth 100000 in
set_option maxHeartbeats 4000000 in
theorem kX6_fill_3 {σ : x_S} {c1 : Nat} {x2 : Int32} {x3 : Int32} {x4 : Int32} {x5 : Int32} {x6 : Int32} (B : x_B p s m args meth c cX6_fill 8 wsX6_fill RX6) (G : x_H s D vwCl (s_tys cI cQ cC cZ) s_N ad (x_A s_N ad) (s_St aS) s_NW) (hr : meth.sig.returnType = none) (hc1 : s_iC c1) (hf : bX6_fill_3  c1 x2 x3 x4 x5 x6 σ = some σ0) : x_J p l e (x_rm 4) s m args below meth c 0 0 (MQ below (x_Qv D vwCl s_N (s_C cI cQ cC ad) ad σ0) args s 0 0 (x_A s_N ad)) (x_A s_N ad) 8 (x_I D vwCl s_N (s_C cI cQ cC ad) ad σ) [(0, .ref (ad 20)), (1, .ref (ad c1)), (2, .int x2), (3, .int x3), (4, .int x4), (5, .int x5), (6, .int x6)] [] 3 := by
  have key : ∀ (n : Nat) (x6 : Int32) (σ : x_S), x_fx (α := Int32 → x_S → Option x_S) (fun _ _ => none) (fun K => fun x6 σ => gX6_fill_3  c1 x2 x3 x4 x5 K x6 σ) n x6 σ = some σ0 → x_J p l e (x_rm 4) s m args below meth c 0 0 (MQ below (x_Qv D vwCl s_N (s_C cI cQ cC ad) ad σ0) args s 0 0 (x_A s_N ad)) (x_A s_N ad) 8 (x_I D vwCl s_N (s_C cI cQ cC ad) ad σ) [(0, .ref (ad 20)), (1, .ref (ad c1)), (2, .int x2), (3, .int x3), (4, .int x4), (5, .int x5), (6, .int x6)] [] 3 := by
    intro n
    induction n with
    | zero => intro x6 σ h; cases h
    | succ n ih => intro x6 σ h; exact qX6_fill_3 B G hr  ih hc1 h
  exact key x_F x6 σ hf
set_option maxRecDepth 100000 in
set_option maxHeartbeats 4000000 in
theorem mX6_fill {σ : x_S} {c1 : Nat} {a2 : Int32} {a3 : Int32} {a4 : Int32} {a5 : Int32} (hdis : x_dis s_N ad) (hc1 : s_iC c1) (hf : fX6_fill c1 a2 a3 a4 a5 σ = some σ0) : x_NV l yX6_fill wsX6_fill 4 D vwCl (s_tys cI cQ cC cZ) s_N (s_C cI cQ cC ad) ad (s_St aS) s_NW [.ref (ad 20), .ref (ad c1), .int a2, .int a3, .int a4, .int a5] σ σ0 := by
  refine x_met (cc := cX6_fill) (own := RX6) (maxL := 8) (ret := none) (by decide +kernel) rfl rfl (Nat.le_of_ble_eq_true rfl) hdis (s_StOk aS) s_NwOk (fun p e s m args below meth c B G hr => ?_)
  unfold fX6_fill at hf
  refine x_sub (lv' := [(0, .ref (ad 20)), (1, .ref (ad c1)), (2, .int a2), (3, .int a3), (4, .int a4), (5, .int a5)]) [0, 1, 2, 3, 4, 5] rfl ?_
  refine x_iconst (v := 0) B dX6_fill_0 (by decide) ?_
  refine x_istore (lv' := [(6, .int 0), (0, .ref (ad 20)), (1, .ref (ad c1)), (2, .int a2), (3, .int a3), (4, .int a4), (5, .int a5)]) B dX6_fill_1 (by decide) rfl ?_
  refine x_sub [1, 2, 3, 4, 5, 6, 0] rfl ?_
  exact kX6_fill_3 B G hr hc1 hf
theorem iX6_leastDuty_0 : Cond.fieldLink RX6 11 "SignDuty$Teller" "least" "[[I" ∈ wsX6_leastDuty := by decide +kernel
theorem iX6_leastDuty_cX6 : ∀ w ∈ u_ws RX6 TX6 1, w ∈ wsX6_leastDuty := by decide +kernel
theorem iX6_leastDuty_2 : Cond.constant RX6 20 1000000 ∈ wsX6_leastDuty := by decide +kernel
theorem iX6_leastDuty_3 : Cond.constant RX6 21 (-1000000) ∈ wsX6_leastDuty := by decide +kernel
set_option maxRecDepth 100000 in
set_option maxHeartbeats 4000000 in
theorem mX6_leastDuty {σ : x_S} {c1 : Nat} {a2 : Int32} {a3 : Int32} {a4 : Int32} {a5 : Int32} (hdis : x_dis s_N ad) (hc1 : s_iC c1) (hf : fX6_leastDuty c1 a2 a3 a4 a5 σ = some (r0, σ0)) : x_NI l yX6_leastDuty wsX6_leastDuty 5 D vwCl (s_tys cI cQ cC cZ) s_N (s_C cI cQ cC ad) ad (s_St aS) s_NW [.ref (ad 20), .ref (ad c1), .int a2, .int a3, .int a4, .int a5] σ r0 σ0 := by
  refine x_met (cc := cX6_leastDuty) (own := RX6) (maxL := 6) (ret := (some .int)) (by decide +kernel) rfl rfl (Nat.le_of_ble_eq_true rfl) hdis (s_StOk aS) s_NwOk (fun p e s m args below meth c B G hr => ?_)
  unfold fX6_leastDuty at hf
  refine x_sub (lv' := [(0, .ref (ad 20)), (1, .ref (ad c1)), (2, .int a2), (3, .int a3), (4, .int a4), (5, .int a5)]) [0, 1, 2, 3, 4, 5] rfl ?_
  refine x_aload_n B dX6_leastDuty_0 rfl 0 rfl ?_
  refine x_aload_n B dX6_leastDuty_1 rfl 1 rfl ?_
  refine x_iload_n B dX6_leastDuty_2 rfl 2 rfl ?_
  refine x_iload_n B dX6_leastDuty_3 rfl 3 rfl ?_
  refine x_iload B dX6_leastDuty_4 4 rfl ?_
  refine x_iload B dX6_leastDuty_6 5 rfl ?_
  obtain ⟨σ2, e1, hf⟩ := x_vs hf
  refine x_callVv (As := [.ref (ad c1), .int a2, .int a3, .int a4, .int a5]) (st := []) B G (mX6_fill (l := l) G.1.2.1 hc1 e1) (cwV 5 B.2.2.2.2.1 gX6_leastDuty_X6_fill rfl rfl rfl hdX6_fill (x_rm_ok (by omega) (by decide))) (by decide) s_c20 rfl rfl rfl (Nat.le_of_ble_eq_true rfl) ⟨Nat.zero_le _, Nat.zero_le _⟩ dX6_leastDuty_8 ?_
  refine x_aload_n B dX6_leastDuty_11 rfl 0 rfl ?_
  refine x_get (v := .ref (ad 21)) (kc := 20) (index := 11) B G.1 iX6_leastDuty_cX6 rfl (by decide) s_c20 0 (by decide) iX6_leastDuty_0 rfl dX6_leastDuty_12 ?_
  refine x_iload_n B dX6_leastDuty_15 rfl 3 rfl ?_
  obtain ⟨h3, hf⟩ := x_gs hf
  refine x_aald (f := fun j => ad (22 + j)) (kc := 21) (t0 := 1) B G.1 (by decide) s_c21 rfl rfl h3 dX6_leastDuty_16 ?_
  refine x_iload B dX6_leastDuty_17 5 rfl ?_
  obtain ⟨h4, hf⟩ := x_gs hf
  refine x_iald (kc := (22 + a3.toNatClampNeg)) (t0 := 0) B G.1 (s_kL h3) (s_cL h3) rfl h4 dX6_leastDuty_19 ?_
  refine x_ldc (v := 1000000) B iX6_leastDuty_2 dX6_leastDuty_20 ?_
  refine x_icmp_ge (tgt := 37) B dX6_leastDuty_22 (by decide) (fun h5 => ?_) (fun h5 => ?_)
  · replace hf := x_it h5 hf
    refine x_ldc (v := (-1000000)) B iX6_leastDuty_3 dX6_leastDuty_37 ?_
    obtain ⟨rfl, rfl⟩ := x_retI hf
    exact x_iret B hr dX6_leastDuty_39
  · replace hf := x_if h5 hf
    refine x_aload_n B dX6_leastDuty_25 rfl 0 rfl ?_
    refine x_get (v := .ref (ad 21)) (kc := 20) (index := 11) B G.1 iX6_leastDuty_cX6 rfl (by decide) s_c20 0 (by decide) iX6_leastDuty_0 rfl dX6_leastDuty_26 ?_
    refine x_iload_n B dX6_leastDuty_29 rfl 3 rfl ?_
    obtain ⟨h6, hf⟩ := x_gs hf
    refine x_aald (f := fun j => ad (22 + j)) (kc := 21) (t0 := 1) B G.1 (by decide) s_c21 rfl rfl h6 dX6_leastDuty_30 ?_
    refine x_iload B dX6_leastDuty_31 5 rfl ?_
    obtain ⟨h7, hf⟩ := x_gs hf
    refine x_iald (kc := (22 + a3.toNatClampNeg)) (t0 := 0) B G.1 (s_kL h6) (s_cL h6) rfl h7 dX6_leastDuty_33 ?_
    refine x_goto (tgt := 39) B dX6_leastDuty_34 (by decide) ?_
    obtain ⟨rfl, rfl⟩ := x_retI hf
    exact x_iret B hr dX6_leastDuty_39
theorem iX6_firstOfCheapest_0 : Cond.fieldLink RX6 32 "SignDuty$City" "gestures" "I" ∈ wsX6_firstOfCheapest := by decide +kernel
theorem iX6_firstOfCheapest_cX2 : ∀ w ∈ u_ws RX2 TX2 13, w ∈ wsX6_firstOfCheapest := by decide +kernel
theorem iX6_firstOfCheapest_2 : Cond.constant RX6 21 (-1000000) ∈ wsX6_firstOfCheapest := by decide +kernel
theorem iX6_firstOfCheapest_3 : Cond.fieldLink RX6 26 "SignDuty$City" "takes" "[I" ∈ wsX6_firstOfCheapest := by decide +kernel
theorem iX6_firstOfCheapest_4 : Cond.fieldLink RX6 11 "SignDuty$Teller" "least" "[[I" ∈ wsX6_firstOfCheapest := by decide +kernel
theorem iX6_firstOfCheapest_cX6 : ∀ w ∈ u_ws RX6 TX6 1, w ∈ wsX6_firstOfCheapest := by decide +kernel
set_option maxRecDepth 100000 in
set_option maxHeartbeats 4000000 in
theorem qX6_firstOfCheapest_3 {σ : x_S} {c1 : Nat} {x2 : Int32} {x3 : Int32} {x4 : Int32} {x5 : Int32} {K3 : Int32 → Option Int32} (B : x_B p s m args meth c cX6_firstOfCheapest 7 wsX6_firstOfCheapest RX6) (G : x_H s D vwCl (s_tys cI cQ cC cZ) s_N ad (x_A s_N ad) (s_St aS) s_NW) (hr : meth.sig.returnType = (some .int)) (hK3 : ∀ (x5 : Int32), K3 x5 = some r0 → x_J p l e (x_rm 4) s m args below meth c 0 0 (MQ below (x_Qi D vwCl s_N (s_C cI cQ cC ad) ad r0 σ) args s 0 0 (x_A s_N ad)) (x_A s_N ad) 7 (x_I D vwCl s_N (s_C cI cQ cC ad) ad σ) [(0, .ref (ad 20)), (1, .ref (ad c1)), (2, .int x2), (3, .int x3), (4, .int x4), (5, .int x5)] [] 3) (hc1 : s_iC c1) (hf : gX6_firstOfCheapest_3  c1 x2 x3 x4 K3 x5 σ = some r0) : x_J p l e (x_rm 4) s m args below meth c 0 0 (MQ below (x_Qi D vwCl s_N (s_C cI cQ cC ad) ad r0 σ) args s 0 0 (x_A s_N ad)) (x_A s_N ad) 7 (x_I D vwCl s_N (s_C cI cQ cC ad) ad σ) [(0, .ref (ad 20)), (1, .ref (ad c1)), (2, .int x2), (3, .int x3), (4, .int x4), (5, .int x5)] [] 3 := by
  unfold gX6_firstOfCheapest_3 at hf
  refine x_iload B dX6_firstOfCheapest_3 5 rfl ?_
  refine x_aload_n B dX6_firstOfCheapest_5 rfl 1 rfl ?_
  refine x_get (v := .int (σ c1 5)) (kc := c1) (index := 32) B G.1 iX6_firstOfCheapest_cX2 rfl (s_kC hc1) (s_cC hc1) 5 (by decide) iX6_firstOfCheapest_0 rfl dX6_firstOfCheapest_6 ?_
  refine x_icmp_ge (tgt := 80) B dX6_firstOfCheapest_9 (by decide) (fun h1 => ?_) (fun h1 => ?_)
  · replace hf := x_it h1 hf
    refine x_ldc (v := (-1000000)) B iX6_firstOfCheapest_2 dX6_firstOfCheapest_80 ?_
    obtain rfl := x_retP hf
    exact x_iret B hr dX6_firstOfCheapest_82
  · replace hf := x_if h1 hf
    refine x_iload B dX6_firstOfCheapest_12 4 rfl ?_
    refine x_aload_n B dX6_firstOfCheapest_14 rfl 1 rfl ?_
    refine x_get (v := .ref (ad (c1 + 6))) (kc := c1) (index := 26) B G.1 iX6_firstOfCheapest_cX2 rfl (s_kC hc1) (s_cC hc1) 11 (by decide) iX6_firstOfCheapest_3 rfl dX6_firstOfCheapest_15 ?_
    refine x_iload B dX6_firstOfCheapest_18 5 rfl ?_
    obtain ⟨h2, hf⟩ := x_gs hf
    refine x_iald (kc := c1 + 6) (t0 := 0) B G.1 (s_kC6 hc1) (s_cC6 hc1) rfl h2 dX6_firstOfCheapest_20 ?_
    refine x_isub B dX6_firstOfCheapest_21 ?_
    refine x_istore (lv' := [(6, .int (x4 - (σ (c1 + 6) x5.toNatClampNeg))), (0, .ref (ad 20)), (1, .ref (ad c1)), (2, .int x2), (3, .int x3), (4, .int x4), (5, .int x5)]) B dX6_firstOfCheapest_22 (by decide) rfl ?_
    refine x_iload B dX6_firstOfCheapest_24 0 rfl ?_
    refine x_if_lt (tgt := 74) B dX6_firstOfCheapest_26 (by decide) (fun h3 => ?_) (fun h3 => ?_)
    · replace hf := x_it h3 hf
      refine x_iinc (v := (x5 + 1)) (lv' := [(5, .int (x5 + 1)), (6, .int (x4 - (σ (c1 + 6) x5.toNatClampNeg))), (0, .ref (ad 20)), (1, .ref (ad c1)), (2, .int x2), (3, .int x3), (4, .int x4)]) B dX6_firstOfCheapest_74 6 rfl rfl (by decide) rfl ?_
      refine x_goto (tgt := 3) B dX6_firstOfCheapest_77 (by decide) ?_
      refine x_sub [2, 3, 4, 5, 6, 0] rfl ?_
      exact hK3 _ hf
    · replace hf := x_if h3 hf
      refine x_aload_n B dX6_firstOfCheapest_29 rfl 2 rfl ?_
      refine x_iload B dX6_firstOfCheapest_30 6 rfl ?_
      refine x_iload_n B dX6_firstOfCheapest_32 rfl 3 rfl ?_
      refine x_iload_n B dX6_firstOfCheapest_33 rfl 4 rfl ?_
      obtain ⟨r5, e4, hf⟩ := x_ps hf
      refine x_callV (As := [.int x5, .int x2, .int x3]) (st := []) B G (mX2_tells (l := l) G.1.2.1 hc1 e4) (cwV 3 B.2.2.2.2.1 gX6_firstOfCheapest_X2_tells rfl rfl rfl hdX2_tells (x_rm_ok (by omega) (by decide))) (s_kC hc1) (s_cC hc1) rfl rfl rfl (Nat.le_of_ble_eq_true rfl) ⟨Nat.zero_le _, Nat.zero_le _⟩ dX6_firstOfCheapest_34 ?_
      refine x_if_eq (tgt := 74) B dX6_firstOfCheapest_37 (by decide) (fun h6 => ?_) (fun h6 => ?_)
      · replace hf := x_it h6 hf
        refine x_iinc (v := (x5 + 1)) (lv' := [(5, .int (x5 + 1)), (6, .int (x4 - (σ (c1 + 6) x5.toNatClampNeg))), (0, .ref (ad 20)), (1, .ref (ad c1)), (2, .int x2), (3, .int x3), (4, .int x4)]) B dX6_firstOfCheapest_74 6 rfl rfl (by decide) rfl ?_
        refine x_goto (tgt := 3) B dX6_firstOfCheapest_77 (by decide) ?_
        refine x_sub [2, 3, 4, 5, 6, 0] rfl ?_
        exact hK3 _ hf
      · replace hf := x_if h6 hf
        refine x_aload_n B dX6_firstOfCheapest_40 rfl 2 rfl ?_
        refine x_iload B dX6_firstOfCheapest_41 6 rfl ?_
        refine x_iload_n B dX6_firstOfCheapest_43 rfl 4 rfl ?_
        obtain ⟨r8, e7, hf⟩ := x_ps hf
        refine x_callV (As := [.int x5, .int x3]) (st := []) B G (mX2_owes (l := l) G.1.2.1 hc1 e7) (cwV 2 B.2.2.2.2.1 gX6_firstOfCheapest_X2_owes rfl rfl rfl hdX2_owes (x_rm_ok (by omega) (by decide))) (s_kC hc1) (s_cC hc1) rfl rfl rfl (Nat.le_of_ble_eq_true rfl) ⟨Nat.zero_le _, Nat.zero_le _⟩ dX6_firstOfCheapest_44 ?_
        refine x_aload_n B dX6_firstOfCheapest_47 rfl 1 rfl ?_
        refine x_get (v := .ref (ad 21)) (kc := 20) (index := 11) B G.1 iX6_firstOfCheapest_cX6 rfl (by decide) s_c20 0 (by decide) iX6_firstOfCheapest_4 rfl dX6_firstOfCheapest_48 ?_
        refine x_iload_n B dX6_firstOfCheapest_51 rfl 4 rfl ?_
        refine x_iconst (v := 1) B dX6_firstOfCheapest_52 (by decide) ?_
        refine x_iadd B dX6_firstOfCheapest_53 ?_
        obtain ⟨h9, hf⟩ := x_gs hf
        refine x_aald (f := fun j => ad (22 + j)) (kc := 21) (t0 := 1) B G.1 (by decide) s_c21 rfl rfl h9 dX6_firstOfCheapest_54 ?_
        refine x_iload B dX6_firstOfCheapest_55 0 rfl ?_
        obtain ⟨h10, hf⟩ := x_gs hf
        refine x_iald (kc := (22 + (x3 + 1).toNatClampNeg)) (t0 := 0) B G.1 (s_kL h9) (s_cL h9) rfl h10 dX6_firstOfCheapest_57 ?_
        refine x_iadd B dX6_firstOfCheapest_58 ?_
        refine x_aload_n B dX6_firstOfCheapest_59 rfl 1 rfl ?_
        refine x_get (v := .ref (ad 21)) (kc := 20) (index := 11) B G.1 iX6_firstOfCheapest_cX6 rfl (by decide) s_c20 0 (by decide) iX6_firstOfCheapest_4 rfl dX6_firstOfCheapest_60 ?_
        refine x_iload_n B dX6_firstOfCheapest_63 rfl 4 rfl ?_
        obtain ⟨h11, hf⟩ := x_gs hf
        refine x_aald (f := fun j => ad (22 + j)) (kc := 21) (t0 := 1) B G.1 (by decide) s_c21 rfl rfl h11 dX6_firstOfCheapest_64 ?_
        refine x_iload B dX6_firstOfCheapest_65 5 rfl ?_
        obtain ⟨h12, hf⟩ := x_gs hf
        refine x_iald (kc := (22 + x3.toNatClampNeg)) (t0 := 0) B G.1 (s_kL h11) (s_cL h11) rfl h12 dX6_firstOfCheapest_67 ?_
        refine x_icmp_ne (tgt := 74) B dX6_firstOfCheapest_68 (by decide) (fun h13 => ?_) (fun h13 => ?_)
        · replace hf := x_if h13 hf
          refine x_iinc (v := (x5 + 1)) (lv' := [(5, .int (x5 + 1)), (6, .int (x4 - (σ (c1 + 6) x5.toNatClampNeg))), (0, .ref (ad 20)), (1, .ref (ad c1)), (2, .int x2), (3, .int x3), (4, .int x4)]) B dX6_firstOfCheapest_74 6 rfl rfl (by decide) rfl ?_
          refine x_goto (tgt := 3) B dX6_firstOfCheapest_77 (by decide) ?_
          refine x_sub [2, 3, 4, 5, 6, 0] rfl ?_
          exact hK3 _ hf
        · replace hf := x_it h13 hf
          refine x_iload B dX6_firstOfCheapest_71 6 rfl ?_
          obtain rfl := x_retP hf
          exact x_iret B hr dX6_firstOfCheapest_73
set_option maxRecDepth 100000 in
set_option maxHeartbeats 4000000 in
theorem kX6_firstOfCheapest_3 {σ : x_S} {c1 : Nat} {x2 : Int32} {x3 : Int32} {x4 : Int32} {x5 : Int32} (B : x_B p s m args meth c cX6_firstOfCheapest 7 wsX6_firstOfCheapest RX6) (G : x_H s D vwCl (s_tys cI cQ cC cZ) s_N ad (x_A s_N ad) (s_St aS) s_NW) (hr : meth.sig.returnType = (some .int)) (hc1 : s_iC c1) (hf : bX6_firstOfCheapest_3  c1 x2 x3 x4 x5 σ = some r0) : x_J p l e (x_rm 4) s m args below meth c 0 0 (MQ below (x_Qi D vwCl s_N (s_C cI cQ cC ad) ad r0 σ) args s 0 0 (x_A s_N ad)) (x_A s_N ad) 7 (x_I D vwCl s_N (s_C cI cQ cC ad) ad σ) [(0, .ref (ad 20)), (1, .ref (ad c1)), (2, .int x2), (3, .int x3), (4, .int x4), (5, .int x5)] [] 3 := by
  have key : ∀ (n : Nat) (x5 : Int32), x_fx (α := Int32 → Option Int32) (fun _ => none) (fun K => fun x5 => gX6_firstOfCheapest_3  c1 x2 x3 x4 K x5 σ) n x5 = some r0 → x_J p l e (x_rm 4) s m args below meth c 0 0 (MQ below (x_Qi D vwCl s_N (s_C cI cQ cC ad) ad r0 σ) args s 0 0 (x_A s_N ad)) (x_A s_N ad) 7 (x_I D vwCl s_N (s_C cI cQ cC ad) ad σ) [(0, .ref (ad 20)), (1, .ref (ad c1)), (2, .int x2), (3, .int x3), (4, .int x4), (5, .int x5)] [] 3 := by
    intro n
    induction n with
    | zero => intro x5 h; cases h
    | succ n ih => intro x5 h; exact qX6_firstOfCheapest_3 B G hr  ih hc1 h
  exact key x_F x5 hf
set_option maxRecDepth 100000 in
set_option maxHeartbeats 4000000 in
theorem mX6_firstOfCheapest {σ : x_S} {c1 : Nat} {a2 : Int32} {a3 : Int32} {a4 : Int32} (hdis : x_dis s_N ad) (hc1 : s_iC c1) (hf : fX6_firstOfCheapest c1 a2 a3 a4 σ = some r0) : x_NI l yX6_firstOfCheapest wsX6_firstOfCheapest 4 D vwCl (s_tys cI cQ cC cZ) s_N (s_C cI cQ cC ad) ad (s_St aS) s_NW [.ref (ad 20), .ref (ad c1), .int a2, .int a3, .int a4] σ r0 σ := by
  refine x_met (cc := cX6_firstOfCheapest) (own := RX6) (maxL := 7) (ret := (some .int)) (by decide +kernel) rfl rfl (Nat.le_of_ble_eq_true rfl) hdis (s_StOk aS) s_NwOk (fun p e s m args below meth c B G hr => ?_)
  unfold fX6_firstOfCheapest at hf
  refine x_sub (lv' := [(0, .ref (ad 20)), (1, .ref (ad c1)), (2, .int a2), (3, .int a3), (4, .int a4)]) [0, 1, 2, 3, 4] rfl ?_
  refine x_iconst (v := 0) B dX6_firstOfCheapest_0 (by decide) ?_
  refine x_istore (lv' := [(5, .int 0), (0, .ref (ad 20)), (1, .ref (ad c1)), (2, .int a2), (3, .int a3), (4, .int a4)]) B dX6_firstOfCheapest_1 (by decide) rfl ?_
  refine x_sub [1, 2, 3, 4, 5, 0] rfl ?_
  exact kX6_firstOfCheapest_3 B G hr hc1 hf
theorem iX6_gestureOfCheapest_0 : Cond.constant RX6 21 (-1000000) ∈ wsX6_gestureOfCheapest := by decide +kernel
theorem iX6_gestureOfCheapest_1 : Cond.fieldLink RX6 11 "SignDuty$Teller" "least" "[[I" ∈ wsX6_gestureOfCheapest := by decide +kernel
theorem iX6_gestureOfCheapest_cX6 : ∀ w ∈ u_ws RX6 TX6 1, w ∈ wsX6_gestureOfCheapest := by decide +kernel
theorem iX6_gestureOfCheapest_3 : Cond.constant RX6 20 1000000 ∈ wsX6_gestureOfCheapest := by decide +kernel
theorem iX6_gestureOfCheapest_4 : Cond.fieldLink RX6 26 "SignDuty$City" "takes" "[I" ∈ wsX6_gestureOfCheapest := by decide +kernel
theorem iX6_gestureOfCheapest_cX2 : ∀ w ∈ u_ws RX2 TX2 13, w ∈ wsX6_gestureOfCheapest := by decide +kernel
set_option maxRecDepth 100000 in
set_option maxHeartbeats 4000000 in
theorem qX6_gestureOfCheapest_48 {σ : x_S} {c1 : Nat} {x2 : Int32} {x3 : Int32} {x6 : Int32} {x7 : Int32} {x8 : Int32} {x9 : Int32} {K48 : Int32 → Int32 → Int32 → x_S → Option (Int32 × x_S)} (B : x_B p s m args meth c cX6_gestureOfCheapest 10 wsX6_gestureOfCheapest RX6) (G : x_H s D vwCl (s_tys cI cQ cC cZ) s_N ad (x_A s_N ad) (s_St aS) s_NW) (hr : meth.sig.returnType = (some .int)) (hK48 : ∀ (x7 : Int32) (x8 : Int32) (x9 : Int32) (σ : x_S), K48 x7 x8 x9 σ = some (r0, σ0) → x_J p l e (x_rm 5) s m args below meth c 0 0 (MQ below (x_Qi D vwCl s_N (s_C cI cQ cC ad) ad r0 σ0) args s 0 0 (x_A s_N ad)) (x_A s_N ad) 10 (x_I D vwCl s_N (s_C cI cQ cC ad) ad σ) [(0, .ref (ad 20)), (1, .ref (ad c1)), (2, .int x2), (3, .int x3), (6, .int x6), (7, .int x7), (8, .int x8), (9, .int x9)] [] 48) (hc1 : s_iC c1) (hf : gX6_gestureOfCheapest_48  c1 x2 x3 x6 K48 x7 x8 x9 σ = some (r0, σ0)) : x_J p l e (x_rm 5) s m args below meth c 0 0 (MQ below (x_Qi D vwCl s_N (s_C cI cQ cC ad) ad r0 σ0) args s 0 0 (x_A s_N ad)) (x_A s_N ad) 10 (x_I D vwCl s_N (s_C cI cQ cC ad) ad σ) [(0, .ref (ad 20)), (1, .ref (ad c1)), (2, .int x2), (3, .int x3), (6, .int x6), (7, .int x7), (8, .int x8), (9, .int x9)] [] 48 := by
  unfold gX6_gestureOfCheapest_48 at hf
  refine x_iload B dX6_gestureOfCheapest_48 7 rfl ?_
  refine x_iload_n B dX6_gestureOfCheapest_50 rfl 3 rfl ?_
  refine x_iload B dX6_gestureOfCheapest_51 4 rfl ?_
  refine x_iadd B dX6_gestureOfCheapest_53 ?_
  refine x_icmp_gt (tgt := 97) B dX6_gestureOfCheapest_54 (by decide) (fun h1 => ?_) (fun h1 => ?_)
  · replace hf := x_it h1 hf
    refine x_iload B dX6_gestureOfCheapest_97 6 rfl ?_
    obtain ⟨rfl, rfl⟩ := x_retI hf
    exact x_iret B hr dX6_gestureOfCheapest_99
  · replace hf := x_if h1 hf
    refine x_aload_n B dX6_gestureOfCheapest_57 rfl 0 rfl ?_
    refine x_aload_n B dX6_gestureOfCheapest_58 rfl 1 rfl ?_
    refine x_iload_n B dX6_gestureOfCheapest_59 rfl 2 rfl ?_
    refine x_iload B dX6_gestureOfCheapest_60 7 rfl ?_
    refine x_iload B dX6_gestureOfCheapest_62 5 rfl ?_
    obtain ⟨r3, e2, hf⟩ := x_ps hf
    refine x_callV (As := [.ref (ad c1), .int x2, .int x9, .int x7]) (st := []) B G (mX6_firstOfCheapest (l := l) G.1.2.1 hc1 e2) (cwV 4 B.2.2.2.2.1 gX6_gestureOfCheapest_X6_firstOfCheapest rfl rfl rfl hdX6_firstOfCheapest (x_rm_ok (by omega) (by decide))) (by decide) s_c20 rfl rfl rfl (Nat.le_of_ble_eq_true rfl) ⟨Nat.zero_le _, Nat.zero_le _⟩ dX6_gestureOfCheapest_64 ?_
    refine x_istore (lv' := [(8, .int r3), (0, .ref (ad 20)), (1, .ref (ad c1)), (2, .int x2), (3, .int x3), (6, .int x6), (7, .int x7), (9, .int x9)]) B dX6_gestureOfCheapest_67 (by decide) rfl ?_
    refine x_iload B dX6_gestureOfCheapest_69 0 rfl ?_
    refine x_ldc (v := (-1000000)) B iX6_gestureOfCheapest_0 dX6_gestureOfCheapest_71 ?_
    refine x_icmp_ne (tgt := 79) B dX6_gestureOfCheapest_73 (by decide) (fun h4 => ?_) (fun h4 => ?_)
    · replace hf := x_if h4 hf
      refine x_iload B dX6_gestureOfCheapest_79 6 rfl ?_
      refine x_aload_n B dX6_gestureOfCheapest_81 rfl 2 rfl ?_
      refine x_get (v := .ref (ad (c1 + 6))) (kc := c1) (index := 26) B G.1 iX6_gestureOfCheapest_cX2 rfl (s_kC hc1) (s_cC hc1) 11 (by decide) iX6_gestureOfCheapest_4 rfl dX6_gestureOfCheapest_82 ?_
      refine x_iload B dX6_gestureOfCheapest_85 0 rfl ?_
      obtain ⟨h5, hf⟩ := x_gs hf
      refine x_iald (kc := c1 + 6) (t0 := 0) B G.1 (s_kC6 hc1) (s_cC6 hc1) rfl h5 dX6_gestureOfCheapest_87 ?_
      refine x_isub B dX6_gestureOfCheapest_88 ?_
      refine x_istore (lv' := [(7, .int (x7 - (σ (c1 + 6) r3.toNatClampNeg))), (8, .int r3), (0, .ref (ad 20)), (1, .ref (ad c1)), (2, .int x2), (3, .int x3), (6, .int x6), (9, .int x9)]) B dX6_gestureOfCheapest_89 (by decide) rfl ?_
      refine x_iinc (v := (x9 + 1)) (lv' := [(9, .int (x9 + 1)), (7, .int (x7 - (σ (c1 + 6) r3.toNatClampNeg))), (8, .int r3), (0, .ref (ad 20)), (1, .ref (ad c1)), (2, .int x2), (3, .int x3), (6, .int x6)]) B dX6_gestureOfCheapest_91 7 rfl rfl (by decide) rfl ?_
      refine x_goto (tgt := 48) B dX6_gestureOfCheapest_94 (by decide) ?_
      refine x_sub [3, 4, 5, 6, 7, 1, 2, 0] rfl ?_
      exact hK48 _ _ _ _ hf
    · replace hf := x_it h4 hf
      refine x_ldc (v := (-1000000)) B iX6_gestureOfCheapest_0 dX6_gestureOfCheapest_76 ?_
      obtain ⟨rfl, rfl⟩ := x_retI hf
      exact x_iret B hr dX6_gestureOfCheapest_78
set_option maxRecDepth 100000 in
set_option maxHeartbeats 4000000 in
theorem kX6_gestureOfCheapest_48 {σ : x_S} {c1 : Nat} {x2 : Int32} {x3 : Int32} {x6 : Int32} {x7 : Int32} {x8 : Int32} {x9 : Int32} (B : x_B p s m args meth c cX6_gestureOfCheapest 10 wsX6_gestureOfCheapest RX6) (G : x_H s D vwCl (s_tys cI cQ cC cZ) s_N ad (x_A s_N ad) (s_St aS) s_NW) (hr : meth.sig.returnType = (some .int)) (hc1 : s_iC c1) (hf : bX6_gestureOfCheapest_48  c1 x2 x3 x6 x7 x8 x9 σ = some (r0, σ0)) : x_J p l e (x_rm 5) s m args below meth c 0 0 (MQ below (x_Qi D vwCl s_N (s_C cI cQ cC ad) ad r0 σ0) args s 0 0 (x_A s_N ad)) (x_A s_N ad) 10 (x_I D vwCl s_N (s_C cI cQ cC ad) ad σ) [(0, .ref (ad 20)), (1, .ref (ad c1)), (2, .int x2), (3, .int x3), (6, .int x6), (7, .int x7), (8, .int x8), (9, .int x9)] [] 48 := by
  have key : ∀ (n : Nat) (x7 : Int32) (x8 : Int32) (x9 : Int32) (σ : x_S), x_fx (α := Int32 → Int32 → Int32 → x_S → Option (Int32 × x_S)) (fun _ _ _ _ => none) (fun K => fun x7 x8 x9 σ => gX6_gestureOfCheapest_48  c1 x2 x3 x6 K x7 x8 x9 σ) n x7 x8 x9 σ = some (r0, σ0) → x_J p l e (x_rm 5) s m args below meth c 0 0 (MQ below (x_Qi D vwCl s_N (s_C cI cQ cC ad) ad r0 σ0) args s 0 0 (x_A s_N ad)) (x_A s_N ad) 10 (x_I D vwCl s_N (s_C cI cQ cC ad) ad σ) [(0, .ref (ad 20)), (1, .ref (ad c1)), (2, .int x2), (3, .int x3), (6, .int x6), (7, .int x7), (8, .int x8), (9, .int x9)] [] 48 := by
    intro n
    induction n with
    | zero => intro x7 x8 x9 σ h; cases h
    | succ n ih => intro x7 x8 x9 σ h; exact qX6_gestureOfCheapest_48 B G hr  ih hc1 h
  exact key x_F x7 x8 x9 σ hf
set_option maxRecDepth 100000 in
set_option maxHeartbeats 4000000 in
theorem mX6_gestureOfCheapest {σ : x_S} {c1 : Nat} {a2 : Int32} {a3 : Int32} {a4 : Int32} {a5 : Int32} {a6 : Int32} (hdis : x_dis s_N ad) (hc1 : s_iC c1) (hf : fX6_gestureOfCheapest c1 a2 a3 a4 a5 a6 σ = some (r0, σ0)) : x_NI l yX6_gestureOfCheapest wsX6_gestureOfCheapest 5 D vwCl (s_tys cI cQ cC cZ) s_N (s_C cI cQ cC ad) ad (s_St aS) s_NW [.ref (ad 20), .ref (ad c1), .int a2, .int a3, .int a4, .int a5, .int a6] σ r0 σ0 := by
  refine x_met (cc := cX6_gestureOfCheapest) (own := RX6) (maxL := 10) (ret := (some .int)) (by decide +kernel) rfl rfl (Nat.le_of_ble_eq_true rfl) hdis (s_StOk aS) s_NwOk (fun p e s m args below meth c B G hr => ?_)
  unfold fX6_gestureOfCheapest at hf
  refine x_sub (lv' := [(0, .ref (ad 20)), (1, .ref (ad c1)), (2, .int a2), (3, .int a3), (4, .int a4), (5, .int a5), (6, .int a6)]) [0, 1, 2, 3, 4, 5, 6] rfl ?_
  refine x_aload_n B dX6_gestureOfCheapest_0 rfl 0 rfl ?_
  refine x_aload_n B dX6_gestureOfCheapest_1 rfl 1 rfl ?_
  refine x_iload_n B dX6_gestureOfCheapest_2 rfl 2 rfl ?_
  refine x_iload_n B dX6_gestureOfCheapest_3 rfl 3 rfl ?_
  refine x_iload B dX6_gestureOfCheapest_4 4 rfl ?_
  refine x_iload B dX6_gestureOfCheapest_6 5 rfl ?_
  obtain ⟨σ2, e1, hf⟩ := x_vs hf
  refine x_callVv (As := [.ref (ad c1), .int a2, .int a3, .int a4, .int a5]) (st := []) B G (mX6_fill (l := l) G.1.2.1 hc1 e1) (cwV 5 B.2.2.2.2.1 gX6_gestureOfCheapest_X6_fill rfl rfl rfl hdX6_fill (x_rm_ok (by omega) (by decide))) (by decide) s_c20 rfl rfl rfl (Nat.le_of_ble_eq_true rfl) ⟨Nat.zero_le _, Nat.zero_le _⟩ dX6_gestureOfCheapest_8 ?_
  refine x_iload B dX6_gestureOfCheapest_11 6 rfl ?_
  refine x_iload B dX6_gestureOfCheapest_13 4 rfl ?_
  refine x_iload_n B dX6_gestureOfCheapest_15 rfl 3 rfl ?_
  refine x_isub B dX6_gestureOfCheapest_16 ?_
  refine x_icmp_gt (tgt := 34) B dX6_gestureOfCheapest_17 (by decide) (fun h3 => ?_) (fun h3 => ?_)
  · replace hf := x_it h3 hf
    refine x_ldc (v := (-1000000)) B iX6_gestureOfCheapest_0 dX6_gestureOfCheapest_34 ?_
    obtain ⟨rfl, rfl⟩ := x_retI hf
    exact x_iret B hr dX6_gestureOfCheapest_36
  · replace hf := x_if h3 hf
    refine x_aload_n B dX6_gestureOfCheapest_20 rfl 0 rfl ?_
    refine x_get (v := .ref (ad 21)) (kc := 20) (index := 11) B G.1 iX6_gestureOfCheapest_cX6 rfl (by decide) s_c20 0 (by decide) iX6_gestureOfCheapest_1 rfl dX6_gestureOfCheapest_21 ?_
    refine x_iload_n B dX6_gestureOfCheapest_24 rfl 3 rfl ?_
    obtain ⟨h4, hf⟩ := x_gs hf
    refine x_aald (f := fun j => ad (22 + j)) (kc := 21) (t0 := 1) B G.1 (by decide) s_c21 rfl rfl h4 dX6_gestureOfCheapest_25 ?_
    refine x_iload B dX6_gestureOfCheapest_26 5 rfl ?_
    obtain ⟨h5, hf⟩ := x_gs hf
    refine x_iald (kc := (22 + a3.toNatClampNeg)) (t0 := 0) B G.1 (s_kL h4) (s_cL h4) rfl h5 dX6_gestureOfCheapest_28 ?_
    refine x_ldc (v := 1000000) B iX6_gestureOfCheapest_3 dX6_gestureOfCheapest_29 ?_
    refine x_icmp_lt (tgt := 37) B dX6_gestureOfCheapest_31 (by decide) (fun h6 => ?_) (fun h6 => ?_)
    · replace hf := x_it h6 hf
      refine x_iload B dX6_gestureOfCheapest_37 5 rfl ?_
      refine x_istore (lv' := [(7, .int a5), (0, .ref (ad 20)), (1, .ref (ad c1)), (2, .int a2), (3, .int a3), (4, .int a4), (5, .int a5), (6, .int a6)]) B dX6_gestureOfCheapest_39 (by decide) rfl ?_
      refine x_ldc (v := (-1000000)) B iX6_gestureOfCheapest_0 dX6_gestureOfCheapest_41 ?_
      refine x_istore (lv' := [(8, .int (-1000000)), (7, .int a5), (0, .ref (ad 20)), (1, .ref (ad c1)), (2, .int a2), (3, .int a3), (4, .int a4), (5, .int a5), (6, .int a6)]) B dX6_gestureOfCheapest_43 (by decide) rfl ?_
      refine x_iload_n B dX6_gestureOfCheapest_45 rfl 5 rfl ?_
      refine x_istore (lv' := [(9, .int a3), (8, .int (-1000000)), (7, .int a5), (0, .ref (ad 20)), (1, .ref (ad c1)), (2, .int a2), (3, .int a3), (4, .int a4), (5, .int a5), (6, .int a6)]) B dX6_gestureOfCheapest_46 (by decide) rfl ?_
      refine x_sub [3, 4, 5, 6, 9, 2, 1, 0] rfl ?_
      exact kX6_gestureOfCheapest_48 B G hr hc1 hf
    · replace hf := x_if h6 hf
      refine x_ldc (v := (-1000000)) B iX6_gestureOfCheapest_0 dX6_gestureOfCheapest_34 ?_
      obtain ⟨rfl, rfl⟩ := x_retI hf
      exact x_iret B hr dX6_gestureOfCheapest_36
theorem iX5_at_0 : Cond.fieldLink RX5 13 "SignDuty$Rows" "items" "[[I" ∈ wsX5_at := by decide +kernel
theorem iX5_at_cX5 : ∀ w ∈ u_ws RX5 TX5 3, w ∈ wsX5_at := by decide +kernel
set_option maxRecDepth 100000 in
set_option maxHeartbeats 4000000 in
theorem mX5_at {σ : x_S} {a1 : Int32} {a2 : Int32} (hdis : x_dis s_N ad) (hf : fX5_at a1 a2 σ = some r0) : x_NI l yX5_at wsX5_at 0 D vwCl (s_tys cI cQ cC cZ) s_N (s_C cI cQ cC ad) ad (s_St aS) s_NW [.ref (ad 1), .int a1, .int a2] σ r0 σ := by
  refine x_met (cc := cX5_at) (own := RX5) (maxL := 3) (ret := (some .int)) (by decide +kernel) rfl rfl (Nat.le_of_ble_eq_true rfl) hdis (s_StOk aS) s_NwOk (fun p e s m args below meth c B G hr => ?_)
  unfold fX5_at at hf
  refine x_sub (lv' := [(0, .ref (ad 1)), (1, .int a1), (2, .int a2)]) [0, 1, 2] rfl ?_
  refine x_aload_n B dX5_at_0 rfl 0 rfl ?_
  refine x_get (v := .ref (ad 2)) (kc := 1) (index := 13) B G.1 iX5_at_cX5 rfl (by decide) s_c1 0 (by decide) iX5_at_0 rfl dX5_at_1 ?_
  refine x_iload_n B dX5_at_4 rfl 1 rfl ?_
  obtain ⟨h1, hf⟩ := x_gs hf
  refine x_aald (f := fun j => ad (3 + j)) (kc := 2) (t0 := 1) B G.1 (by decide) s_c2 rfl rfl h1 dX5_at_5 ?_
  refine x_iload_n B dX5_at_6 rfl 2 rfl ?_
  obtain ⟨h2, hf⟩ := x_gs hf
  refine x_iald (kc := (3 + a1.toNatClampNeg)) (t0 := 0) B G.1 (s_kI h1) (s_cI h1) rfl h2 dX5_at_7 ?_
  obtain rfl := x_retP hf
  exact x_iret B hr dX5_at_8
set_option maxRecDepth 100000 in
set_option maxHeartbeats 4000000 in
theorem kX1_bodyFor_30 {σ : x_S} {K4 : Int32 → Int32 → Option Int32} {b0 : Nat} {x2 : Int32} {x3 : Int32} (B : x_B p s m args meth c cX1_bodyFor 4 wsX1_bodyFor RX1) (G : x_H s D vwCl (s_tys cI cQ cC cZ) s_N ad (x_A s_N ad) (s_St aS) s_NW) (hr : meth.sig.returnType = (some .int)) (hK4 : ∀ (x2 : Int32) (x3 : Int32), K4 x2 x3 = some r0 → x_J p l e (x_rm 1) s m args below meth c 0 0 (MQ below (x_Qi D vwCl s_N (s_C cI cQ cC ad) ad r0 σ) args s 0 0 (x_A s_N ad)) (x_A s_N ad) 4 (x_I D vwCl s_N (s_C cI cQ cC ad) ad σ) [(0, .ref (aS b0)), (2, .int x2), (3, .int x3)] [] 4) (hb0 : b0 < 3) (hf : bX1_bodyFor_30 K4 b0 x2 x3 σ = some r0) : x_J p l e (x_rm 1) s m args below meth c 0 0 (MQ below (x_Qi D vwCl s_N (s_C cI cQ cC ad) ad r0 σ) args s 0 0 (x_A s_N ad)) (x_A s_N ad) 4 (x_I D vwCl s_N (s_C cI cQ cC ad) ad σ) [(0, .ref (aS b0)), (2, .int x2), (3, .int x3)] [] 30 := by
  unfold bX1_bodyFor_30 at hf
  refine x_iload_n B dX1_bodyFor_30 rfl 1 rfl ?_
  obtain ⟨r2, e1, hf⟩ := x_ps hf
  refine x_callS (As := [.int x2]) (st := []) B G (mX3_widerThan (l := l) G.1.2.1  e1) (va_cwS 1 B.2.2.2.2.1 gX1_bodyFor_X3_widerThan rfl rfl rfl hdX3_widerThan (x_rm_ok (by omega) (by decide))) rfl rfl (Nat.le_of_ble_eq_true rfl) ⟨Nat.zero_le _, Nat.zero_le _⟩ dX1_bodyFor_31 ?_
  refine x_istore_n (lv' := [(2, .int r2), (0, .ref (aS b0)), (3, .int x3)]) B dX1_bodyFor_34 rfl (by decide) rfl ?_
  refine x_iinc (v := (x3 + 1)) (lv' := [(3, .int (x3 + 1)), (2, .int r2), (0, .ref (aS b0))]) B dX1_bodyFor_35 2 rfl rfl (by decide) rfl ?_
  refine x_goto (tgt := 4) B dX1_bodyFor_38 (by decide) ?_
  refine x_sub [2, 1, 0] rfl ?_
  exact hK4 _ _ hf
set_option maxRecDepth 100000 in
set_option maxHeartbeats 4000000 in
theorem qX1_bodyFor_4 {σ : x_S} {b0 : Nat} {x2 : Int32} {x3 : Int32} {K4 : Int32 → Int32 → Option Int32} (B : x_B p s m args meth c cX1_bodyFor 4 wsX1_bodyFor RX1) (G : x_H s D vwCl (s_tys cI cQ cC cZ) s_N ad (x_A s_N ad) (s_St aS) s_NW) (hr : meth.sig.returnType = (some .int)) (hK4 : ∀ (x2 : Int32) (x3 : Int32), K4 x2 x3 = some r0 → x_J p l e (x_rm 1) s m args below meth c 0 0 (MQ below (x_Qi D vwCl s_N (s_C cI cQ cC ad) ad r0 σ) args s 0 0 (x_A s_N ad)) (x_A s_N ad) 4 (x_I D vwCl s_N (s_C cI cQ cC ad) ad σ) [(0, .ref (aS b0)), (2, .int x2), (3, .int x3)] [] 4) (hb0 : b0 < 3) (hf : gX1_bodyFor_4  b0 K4 x2 x3 σ = some r0) : x_J p l e (x_rm 1) s m args below meth c 0 0 (MQ below (x_Qi D vwCl s_N (s_C cI cQ cC ad) ad r0 σ) args s 0 0 (x_A s_N ad)) (x_A s_N ad) 4 (x_I D vwCl s_N (s_C cI cQ cC ad) ad σ) [(0, .ref (aS b0)), (2, .int x2), (3, .int x3)] [] 4 := by
  unfold gX1_bodyFor_4 at hf
  refine x_iload_n B dX1_bodyFor_4 rfl 2 rfl ?_
  refine x_aload_n B dX1_bodyFor_5 rfl 0 rfl ?_
  refine x_talen (v := 6) B (G.1.2.2.2.2.2.2.2 b0 hb0) (by decide) dX1_bodyFor_6 ?_
  refine x_icmp_ge (tgt := 41) B dX1_bodyFor_7 (by decide) (fun h1 => ?_) (fun h1 => ?_)
  · replace hf := x_it h1 hf
    refine x_iconst (v := 0) B dX1_bodyFor_41 (by decide) ?_
    obtain rfl := x_retP hf
    exact x_iret B hr dX1_bodyFor_42
  · replace hf := x_if h1 hf
    refine x_iload_n B dX1_bodyFor_10 rfl 1 rfl ?_
    refine x_if_lt (tgt := 30) B dX1_bodyFor_11 (by decide) (fun h2 => ?_) (fun h2 => ?_)
    · replace hf := x_it h2 hf
      refine x_sub [0, 1, 2] rfl ?_
      exact kX1_bodyFor_30 B G hr hK4 hb0 hf
    · replace hf := x_if h2 hf
      refine x_iload_n B dX1_bodyFor_14 rfl 1 rfl ?_
      refine x_aload_n B dX1_bodyFor_15 rfl 0 rfl ?_
      refine x_talen (v := 6) B (G.1.2.2.2.2.2.2.2 b0 hb0) (by decide) dX1_bodyFor_16 ?_
      refine x_icmp_ge (tgt := 30) B dX1_bodyFor_17 (by decide) (fun h3 => ?_) (fun h3 => ?_)
      · replace hf := x_it h3 hf
        refine x_sub [0, 1, 2] rfl ?_
        exact kX1_bodyFor_30 B G hr hK4 hb0 hf
      · replace hf := x_if h3 hf
        refine x_aload_n B dX1_bodyFor_20 rfl 0 rfl ?_
        refine x_iload_n B dX1_bodyFor_21 rfl 1 rfl ?_
        obtain ⟨h4, hf⟩ := x_gs hf
        refine x_tald (f := s_t b0) B (G.1.2.2.2.2.2.2.2 b0 hb0) h4 dX1_bodyFor_22 ?_
        refine x_if_eq (tgt := 30) B dX1_bodyFor_23 (by decide) (fun h5 => ?_) (fun h5 => ?_)
        · replace hf := x_it h5 hf
          refine x_sub [0, 1, 2] rfl ?_
          exact kX1_bodyFor_30 B G hr hK4 hb0 hf
        · replace hf := x_if h5 hf
          refine x_aload_n B dX1_bodyFor_26 rfl 0 rfl ?_
          refine x_iload_n B dX1_bodyFor_27 rfl 1 rfl ?_
          obtain ⟨h6, hf⟩ := x_gs hf
          refine x_tald (f := s_t b0) B (G.1.2.2.2.2.2.2.2 b0 hb0) h6 dX1_bodyFor_28 ?_
          obtain rfl := x_retP hf
          exact x_iret B hr dX1_bodyFor_29
set_option maxRecDepth 100000 in
set_option maxHeartbeats 4000000 in
theorem kX1_bodyFor_4 {σ : x_S} {b0 : Nat} {x2 : Int32} {x3 : Int32} (B : x_B p s m args meth c cX1_bodyFor 4 wsX1_bodyFor RX1) (G : x_H s D vwCl (s_tys cI cQ cC cZ) s_N ad (x_A s_N ad) (s_St aS) s_NW) (hr : meth.sig.returnType = (some .int)) (hb0 : b0 < 3) (hf : bX1_bodyFor_4  b0 x2 x3 σ = some r0) : x_J p l e (x_rm 1) s m args below meth c 0 0 (MQ below (x_Qi D vwCl s_N (s_C cI cQ cC ad) ad r0 σ) args s 0 0 (x_A s_N ad)) (x_A s_N ad) 4 (x_I D vwCl s_N (s_C cI cQ cC ad) ad σ) [(0, .ref (aS b0)), (2, .int x2), (3, .int x3)] [] 4 := by
  have key : ∀ (n : Nat) (x2 : Int32) (x3 : Int32), x_fx (α := Int32 → Int32 → Option Int32) (fun _ _ => none) (fun K => fun x2 x3 => gX1_bodyFor_4  b0 K x2 x3 σ) n x2 x3 = some r0 → x_J p l e (x_rm 1) s m args below meth c 0 0 (MQ below (x_Qi D vwCl s_N (s_C cI cQ cC ad) ad r0 σ) args s 0 0 (x_A s_N ad)) (x_A s_N ad) 4 (x_I D vwCl s_N (s_C cI cQ cC ad) ad σ) [(0, .ref (aS b0)), (2, .int x2), (3, .int x3)] [] 4 := by
    intro n
    induction n with
    | zero => intro x2 x3 h; cases h
    | succ n ih => intro x2 x3 h; exact qX1_bodyFor_4 B G hr  ih hb0 h
  exact key x_F x2 x3 hf
set_option maxRecDepth 100000 in
set_option maxHeartbeats 4000000 in
theorem mX1_bodyFor {σ : x_S} {b0 : Nat} {a1 : Int32} (hdis : x_dis s_N ad) (hb0 : b0 < 3) (hf : fX1_bodyFor b0 a1 σ = some r0) : x_NI l yX1_bodyFor wsX1_bodyFor 1 D vwCl (s_tys cI cQ cC cZ) s_N (s_C cI cQ cC ad) ad (s_St aS) s_NW [.ref (aS b0), .int a1] σ r0 σ := by
  refine x_met (cc := cX1_bodyFor) (own := RX1) (maxL := 4) (ret := (some .int)) (by decide +kernel) rfl rfl (Nat.le_of_ble_eq_true rfl) hdis (s_StOk aS) s_NwOk (fun p e s m args below meth c B G hr => ?_)
  unfold fX1_bodyFor at hf
  refine x_sub (lv' := [(0, .ref (aS b0)), (1, .int a1)]) [0, 1] rfl ?_
  refine x_iload_n B dX1_bodyFor_0 rfl 1 rfl ?_
  refine x_istore_n (lv' := [(2, .int a1), (0, .ref (aS b0)), (1, .int a1)]) B dX1_bodyFor_1 rfl (by decide) rfl ?_
  refine x_iconst (v := 0) B dX1_bodyFor_2 (by decide) ?_
  refine x_istore_n (lv' := [(3, .int 0), (2, .int a1), (0, .ref (aS b0)), (1, .int a1)]) B dX1_bodyFor_3 rfl (by decide) rfl ?_
  refine x_sub [2, 1, 0] rfl ?_
  exact kX1_bodyFor_4 B G hr hb0 hf
theorem iX1_asked_0 : Cond.fieldLink RX1 27 "SignDuty$Asks" "MARK_BODIES" "[I" ∈ wsX1_asked := by decide +kernel
theorem iX1_asked_1 : Cond.fieldLink RX1 30 "SignDuty$City" "kind" "[I" ∈ wsX1_asked := by decide +kernel
theorem iX1_asked_cX2 : ∀ w ∈ u_ws RX2 TX2 13, w ∈ wsX1_asked := by decide +kernel
theorem iX1_asked_3 : Cond.fieldLink RX1 24 "SignDuty$Asks" "SIZE_BODIES" "[I" ∈ wsX1_asked := by decide +kernel
set_option maxRecDepth 100000 in
set_option maxHeartbeats 4000000 in
theorem kX1_asked_13 {σ : x_S} {rec : Int32 → Nat → Int32 → Int32 → x_S → Option (Int32 × x_S)} {c1 : Nat} {x2 : Int32} {x4 : Int32} {yb0 : Nat} (B : x_B p s m args meth c cX1_asked 6 wsX1_asked RX1) (G : x_H s D vwCl (s_tys cI cQ cC cZ) s_N ad (x_A s_N ad) (s_St aS) s_NW) (hr : meth.sig.returnType = (some .int)) (hrec : ∀ (a1 : Int32) (c2 : Nat) (a3 : Int32) (a4 : Int32) (σ : x_S) (r0 : Int32) (σ0 : x_S), s_iC c2 → rec a1 c2 a3 a4 σ = some (r0, σ0) → x_NI l yX1_given wsX1_given k D vwCl (s_tys cI cQ cC cZ) s_N (s_C cI cQ cC ad) ad (s_St aS) s_NW [.ref (ad 30), .int a1, .ref (ad c2), .int a3, .int a4] σ r0 σ0) (hc1 : s_iC c1) (hyb0 : yb0 < 3) (hf : bX1_asked_13 rec  c1 x2 x4 yb0 σ = some (r0, σ0)) : x_J p l e (x_rm (k + 2)) s m args below meth c 0 0 (MQ below (x_Qi D vwCl s_N (s_C cI cQ cC ad) ad r0 σ0) args s 0 0 (x_A s_N ad)) (x_A s_N ad) 6 (x_I D vwCl s_N (s_C cI cQ cC ad) ad σ) [(0, .ref (ad 30)), (1, .ref (ad c1)), (2, .int x2), (4, .int x4)] [.ref (aS yb0)] 13 := by
  unfold bX1_asked_13 at hf
  refine x_astore (lv' := [(5, .ref (aS yb0)), (0, .ref (ad 30)), (1, .ref (ad c1)), (2, .int x2), (4, .int x4)]) B dX1_asked_13 (by decide) rfl ?_
  refine x_aload_n B dX1_asked_15 rfl 1 rfl ?_
  refine x_aload B dX1_asked_16 0 rfl ?_
  refine x_aload_n B dX1_asked_18 rfl 2 rfl ?_
  refine x_get (v := .ref (ad (c1 + 3))) (kc := c1) (index := 30) B G.1 iX1_asked_cX2 rfl (s_kC hc1) (s_cC hc1) 8 (by decide) iX1_asked_1 rfl dX1_asked_19 ?_
  refine x_iload_n B dX1_asked_22 rfl 3 rfl ?_
  obtain ⟨h1, hf⟩ := x_gs hf
  refine x_iald (kc := c1 + 3) (t0 := 0) B G.1 (s_kC3 hc1) (s_cC3 hc1) rfl h1 dX1_asked_23 ?_
  obtain ⟨r3, e2, hf⟩ := x_ps hf
  refine x_callS (As := [.ref (aS yb0), .int (σ (c1 + 3) x2.toNatClampNeg)]) (st := [.ref (ad 30)]) B G (mX1_bodyFor (l := l) G.1.2.1 hyb0 e2) (va_cwS 2 B.2.2.2.2.1 gX1_asked_X1_bodyFor rfl rfl rfl hdX1_bodyFor (x_rm_ok (by omega) (by decide))) rfl rfl (Nat.le_of_ble_eq_true rfl) ⟨Nat.zero_le _, Nat.zero_le _⟩ dX1_asked_24 ?_
  refine x_aload_n B dX1_asked_27 rfl 2 rfl ?_
  refine x_iload_n B dX1_asked_28 rfl 3 rfl ?_
  refine x_iload B dX1_asked_29 4 rfl ?_
  obtain ⟨r5, σ6, e4, hf⟩ := x_bs hf
  refine x_callV (As := [.int r3, .ref (ad c1), .int x2, .int x4]) (st := []) B G (hrec _ _ _ _ _ _ _ hc1 e4) (cwV 4 B.2.2.2.2.1 gX1_asked_X1_given rfl rfl rfl hdX1_given (x_rm_ok (by omega) (by decide))) (by decide) s_c30 rfl rfl rfl (Nat.le_of_ble_eq_true rfl) ⟨Nat.zero_le _, Nat.zero_le _⟩ dX1_asked_31 ?_
  obtain ⟨rfl, rfl⟩ := x_retI hf
  exact x_iret B hr dX1_asked_34
set_option maxRecDepth 100000 in
set_option maxHeartbeats 4000000 in
theorem mX1_asked {σ : x_S} {rec : Int32 → Nat → Int32 → Int32 → x_S → Option (Int32 × x_S)} {c1 : Nat} {a2 : Int32} {a3 : Int32} {a4 : Int32} (hdis : x_dis s_N ad) (hrec : ∀ (a1 : Int32) (c2 : Nat) (a3 : Int32) (a4 : Int32) (σ : x_S) (r0 : Int32) (σ0 : x_S), s_iC c2 → rec a1 c2 a3 a4 σ = some (r0, σ0) → x_NI l yX1_given wsX1_given k D vwCl (s_tys cI cQ cC cZ) s_N (s_C cI cQ cC ad) ad (s_St aS) s_NW [.ref (ad 30), .int a1, .ref (ad c2), .int a3, .int a4] σ r0 σ0) (hc1 : s_iC c1) (hf : fX1_asked rec c1 a2 a3 a4 σ = some (r0, σ0)) : x_NI l yX1_asked wsX1_asked (k + 2) D vwCl (s_tys cI cQ cC cZ) s_N (s_C cI cQ cC ad) ad (s_St aS) s_NW [.ref (ad 30), .ref (ad c1), .int a2, .int a3, .int a4] σ r0 σ0 := by
  refine x_met (cc := cX1_asked) (own := RX1) (maxL := 6) (ret := (some .int)) (by decide +kernel) rfl rfl (Nat.le_of_ble_eq_true rfl) hdis (s_StOk aS) s_NwOk (fun p e s m args below meth c B G hr => ?_)
  unfold fX1_asked at hf
  refine x_sub (lv' := [(0, .ref (ad 30)), (1, .ref (ad c1)), (2, .int a2), (3, .int a3), (4, .int a4)]) [0, 1, 2, 3, 4] rfl ?_
  refine x_iload_n B dX1_asked_0 rfl 3 rfl ?_
  refine x_if_ne (tgt := 10) B dX1_asked_1 (by decide) (fun h1 => ?_) (fun h1 => ?_)
  · replace hf := x_if h1 hf
    refine x_gets B G.1.2.2.2.2.2.2.1 iX1_asked_0 dX1_asked_10 ?_
    refine x_sub [0, 1, 2, 4] rfl ?_
    exact kX1_asked_13 B G hr hrec hc1 (by decide) hf
  · replace hf := x_it h1 hf
    refine x_gets B G.1.2.2.2.2.2.1 iX1_asked_3 dX1_asked_4 ?_
    refine x_goto (tgt := 13) B dX1_asked_7 (by decide) ?_
    refine x_sub [0, 1, 2, 4] rfl ?_
    exact kX1_asked_13 B G hr hrec hc1 (by decide) hf
theorem iX1_sizeBy_0 : Cond.fieldLink RX1 59 "SignDuty$City" "takes" "[I" ∈ wsX1_sizeBy := by decide +kernel
theorem iX1_sizeBy_cX2 : ∀ w ∈ u_ws RX2 TX2 13, w ∈ wsX1_sizeBy := by decide +kernel
set_option maxRecDepth 100000 in
set_option maxHeartbeats 4000000 in
theorem mX1_sizeBy {σ : x_S} {rec : Int32 → Nat → Int32 → Int32 → x_S → Option (Int32 × x_S)} {a1 : Int32} {c2 : Nat} {a3 : Int32} {a4 : Int32} (hdis : x_dis s_N ad) (hrec : ∀ (a1 : Int32) (c2 : Nat) (a3 : Int32) (a4 : Int32) (σ : x_S) (r0 : Int32) (σ0 : x_S), s_iC c2 → rec a1 c2 a3 a4 σ = some (r0, σ0) → x_NI l yX1_given wsX1_given k D vwCl (s_tys cI cQ cC cZ) s_N (s_C cI cQ cC ad) ad (s_St aS) s_NW [.ref (ad 30), .int a1, .ref (ad c2), .int a3, .int a4] σ r0 σ0) (hc2 : s_iC c2) (hf : fX1_sizeBy rec a1 c2 a3 a4 σ = some (r0, σ0)) : x_NI l yX1_sizeBy wsX1_sizeBy (k + 3) D vwCl (s_tys cI cQ cC cZ) s_N (s_C cI cQ cC ad) ad (s_St aS) s_NW [.ref (ad 30), .int a1, .ref (ad c2), .int a3, .int a4] σ r0 σ0 := by
  refine x_met (cc := cX1_sizeBy) (own := RX1) (maxL := 5) (ret := (some .int)) (by decide +kernel) rfl rfl (Nat.le_of_ble_eq_true rfl) hdis (s_StOk aS) s_NwOk (fun p e s m args below meth c B G hr => ?_)
  unfold fX1_sizeBy at hf
  refine x_sub (lv' := [(0, .ref (ad 30)), (1, .int a1), (2, .ref (ad c2)), (3, .int a3), (4, .int a4)]) [0, 1, 2, 3, 4] rfl ?_
  refine x_iload_n B dX1_sizeBy_0 rfl 1 rfl ?_
  by_cases h1 : a1 = 10
  · replace hf := x_it h1 hf
    refine x_tableIn (tgt := 36) (off := 35) B dX1_sizeBy_1 (by rw [h1]; decide) (by rw [h1]; decide) (by rw [h1]; rfl) (by decide) ?_
    refine x_aload_n B dX1_sizeBy_36 rfl 2 rfl ?_
    refine x_get (v := .ref (ad (c2 + 6))) (kc := c2) (index := 59) B G.1 iX1_sizeBy_cX2 rfl (s_kC hc2) (s_cC hc2) 11 (by decide) iX1_sizeBy_0 rfl dX1_sizeBy_37 ?_
    refine x_iload_n B dX1_sizeBy_40 rfl 3 rfl ?_
    obtain ⟨h2, hf⟩ := x_gs hf
    refine x_iald (kc := c2 + 6) (t0 := 0) B G.1 (s_kC6 hc2) (s_cC6 hc2) rfl h2 dX1_sizeBy_41 ?_
    obtain ⟨rfl, rfl⟩ := x_retI hf
    exact x_iret B hr dX1_sizeBy_42
  · replace hf := x_if h1 hf
    by_cases h3 : a1 = 11
    · replace hf := x_it h3 hf
      refine x_tableIn (tgt := 43) (off := 42) B dX1_sizeBy_1 (by rw [h3]; decide) (by rw [h3]; decide) (by rw [h3]; rfl) (by decide) ?_
      refine x_aload_n B dX1_sizeBy_43 rfl 0 rfl ?_
      refine x_bipush (v := 10) B dX1_sizeBy_44 (by decide) ?_
      refine x_aload_n B dX1_sizeBy_46 rfl 2 rfl ?_
      refine x_iload_n B dX1_sizeBy_47 rfl 3 rfl ?_
      refine x_iload B dX1_sizeBy_48 4 rfl ?_
      obtain ⟨r5, σ6, e4, hf⟩ := x_bs hf
      refine x_callV (As := [.int 10, .ref (ad c2), .int a3, .int a4]) (st := []) B G (hrec _ _ _ _ _ _ _ hc2 e4) (cwV 4 B.2.2.2.2.1 gX1_sizeBy_X1_given rfl rfl rfl hdX1_given (x_rm_ok (by omega) (by decide))) (by decide) s_c30 rfl rfl rfl (Nat.le_of_ble_eq_true rfl) ⟨Nat.zero_le _, Nat.zero_le _⟩ dX1_sizeBy_50 ?_
      refine x_aload_n B dX1_sizeBy_53 rfl 0 rfl ?_
      refine x_aload_n B dX1_sizeBy_54 rfl 2 rfl ?_
      refine x_iload_n B dX1_sizeBy_55 rfl 3 rfl ?_
      refine x_iconst (v := 1) B dX1_sizeBy_56 (by decide) ?_
      refine x_iload B dX1_sizeBy_57 4 rfl ?_
      obtain ⟨r8, σ9, e7, hf⟩ := x_bs hf
      refine x_callV (As := [.ref (ad c2), .int a3, .int 1, .int a4]) (st := [.int r5]) B G (mX1_asked (l := l) G.1.2.1 hrec hc2 e7) (cwV 4 B.2.2.2.2.1 gX1_sizeBy_X1_asked rfl rfl rfl hdX1_asked (x_rm_ok (by omega) (by decide))) (by decide) s_c30 rfl rfl rfl (Nat.le_of_ble_eq_true rfl) ⟨Nat.zero_le _, Nat.zero_le _⟩ dX1_sizeBy_59 ?_
      refine x_iadd B dX1_sizeBy_62 ?_
      obtain ⟨rfl, rfl⟩ := x_retI hf
      exact x_iret B hr dX1_sizeBy_63
    · replace hf := x_if h3 hf
      by_cases h10 : a1 = 12
      · replace hf := x_it h10 hf
        refine x_tableIn (tgt := 64) (off := 63) B dX1_sizeBy_1 (by rw [h10]; decide) (by rw [h10]; decide) (by rw [h10]; rfl) (by decide) ?_
        refine x_aload_n B dX1_sizeBy_64 rfl 0 rfl ?_
        refine x_bipush (v := 11) B dX1_sizeBy_65 (by decide) ?_
        refine x_aload_n B dX1_sizeBy_67 rfl 2 rfl ?_
        refine x_iload_n B dX1_sizeBy_68 rfl 3 rfl ?_
        refine x_iload B dX1_sizeBy_69 4 rfl ?_
        obtain ⟨r12, σ13, e11, hf⟩ := x_bs hf
        refine x_callV (As := [.int 11, .ref (ad c2), .int a3, .int a4]) (st := []) B G (hrec _ _ _ _ _ _ _ hc2 e11) (cwV 4 B.2.2.2.2.1 gX1_sizeBy_X1_given rfl rfl rfl hdX1_given (x_rm_ok (by omega) (by decide))) (by decide) s_c30 rfl rfl rfl (Nat.le_of_ble_eq_true rfl) ⟨Nat.zero_le _, Nat.zero_le _⟩ dX1_sizeBy_71 ?_
        refine x_ineg B dX1_sizeBy_74 ?_
        obtain ⟨rfl, rfl⟩ := x_retI hf
        exact x_iret B hr dX1_sizeBy_75
      · replace hf := x_if h10 hf
        by_cases h14 : a1 = 13
        · replace hf := x_it h14 hf
          refine x_tableIn (tgt := 76) (off := 75) B dX1_sizeBy_1 (by rw [h14]; decide) (by rw [h14]; decide) (by rw [h14]; rfl) (by decide) ?_
          refine x_aload_n B dX1_sizeBy_76 rfl 0 rfl ?_
          refine x_bipush (v := 10) B dX1_sizeBy_77 (by decide) ?_
          refine x_aload_n B dX1_sizeBy_79 rfl 2 rfl ?_
          refine x_iload_n B dX1_sizeBy_80 rfl 3 rfl ?_
          refine x_iload B dX1_sizeBy_81 4 rfl ?_
          obtain ⟨r16, σ17, e15, hf⟩ := x_bs hf
          refine x_callV (As := [.int 10, .ref (ad c2), .int a3, .int a4]) (st := []) B G (hrec _ _ _ _ _ _ _ hc2 e15) (cwV 4 B.2.2.2.2.1 gX1_sizeBy_X1_given rfl rfl rfl hdX1_given (x_rm_ok (by omega) (by decide))) (by decide) s_c30 rfl rfl rfl (Nat.le_of_ble_eq_true rfl) ⟨Nat.zero_le _, Nat.zero_le _⟩ dX1_sizeBy_83 ?_
          refine x_bipush (v := 100) B dX1_sizeBy_86 (by decide) ?_
          refine x_isub B dX1_sizeBy_88 ?_
          obtain ⟨rfl, rfl⟩ := x_retI hf
          exact x_iret B hr dX1_sizeBy_89
        · replace hf := x_if h14 hf
          by_cases h18 : a1 = 14
          · replace hf := x_it h18 hf
            refine x_tableIn (tgt := 90) (off := 89) B dX1_sizeBy_1 (by rw [h18]; decide) (by rw [h18]; decide) (by rw [h18]; rfl) (by decide) ?_
            refine x_iconst (v := 2) B dX1_sizeBy_90 (by decide) ?_
            refine x_aload_n B dX1_sizeBy_91 rfl 0 rfl ?_
            refine x_bipush (v := 13) B dX1_sizeBy_92 (by decide) ?_
            refine x_aload_n B dX1_sizeBy_94 rfl 2 rfl ?_
            refine x_iload_n B dX1_sizeBy_95 rfl 3 rfl ?_
            refine x_iload B dX1_sizeBy_96 4 rfl ?_
            obtain ⟨r20, σ21, e19, hf⟩ := x_bs hf
            refine x_callV (As := [.int 13, .ref (ad c2), .int a3, .int a4]) (st := [.int 2]) B G (hrec _ _ _ _ _ _ _ hc2 e19) (cwV 4 B.2.2.2.2.1 gX1_sizeBy_X1_given rfl rfl rfl hdX1_given (x_rm_ok (by omega) (by decide))) (by decide) s_c30 rfl rfl rfl (Nat.le_of_ble_eq_true rfl) ⟨Nat.zero_le _, Nat.zero_le _⟩ dX1_sizeBy_98 ?_
            refine x_imul B dX1_sizeBy_101 ?_
            obtain ⟨rfl, rfl⟩ := x_retI hf
            exact x_iret B hr dX1_sizeBy_102
          · replace hf := x_if h18 hf
            refine x_tableOut (tgt := 103) B dX1_sizeBy_1 (by have g0 := lv_neT (a := 10) h1 rfl; have g1 := lv_neT (a := 11) h3 rfl; have g2 := lv_neT (a := 12) h10 rfl; have g3 := lv_neT (a := 13) h14 rfl; have g4 := lv_neT (a := 14) h18 rfl; omega) (by decide) ?_
            refine x_iconst (v := 0) B dX1_sizeBy_103 (by decide) ?_
            obtain ⟨rfl, rfl⟩ := x_retI hf
            exact x_iret B hr dX1_sizeBy_104
theorem iX1_markBy_0 : Cond.fieldLink RX1 62 "SignDuty$City" "inches" "[I" ∈ wsX1_markBy := by decide +kernel
theorem iX1_markBy_cX2 : ∀ w ∈ u_ws RX2 TX2 13, w ∈ wsX1_markBy := by decide +kernel
set_option maxRecDepth 100000 in
set_option maxHeartbeats 4000000 in
theorem mX1_markBy {σ : x_S} {rec : Int32 → Nat → Int32 → Int32 → x_S → Option (Int32 × x_S)} {a1 : Int32} {c2 : Nat} {a3 : Int32} {a4 : Int32} (hdis : x_dis s_N ad) (hrec : ∀ (a1 : Int32) (c2 : Nat) (a3 : Int32) (a4 : Int32) (σ : x_S) (r0 : Int32) (σ0 : x_S), s_iC c2 → rec a1 c2 a3 a4 σ = some (r0, σ0) → x_NI l yX1_given wsX1_given k D vwCl (s_tys cI cQ cC cZ) s_N (s_C cI cQ cC ad) ad (s_St aS) s_NW [.ref (ad 30), .int a1, .ref (ad c2), .int a3, .int a4] σ r0 σ0) (hc2 : s_iC c2) (hf : fX1_markBy rec a1 c2 a3 a4 σ = some (r0, σ0)) : x_NI l yX1_markBy wsX1_markBy (k + 3) D vwCl (s_tys cI cQ cC cZ) s_N (s_C cI cQ cC ad) ad (s_St aS) s_NW [.ref (ad 30), .int a1, .ref (ad c2), .int a3, .int a4] σ r0 σ0 := by
  refine x_met (cc := cX1_markBy) (own := RX1) (maxL := 5) (ret := (some .int)) (by decide +kernel) rfl rfl (Nat.le_of_ble_eq_true rfl) hdis (s_StOk aS) s_NwOk (fun p e s m args below meth c B G hr => ?_)
  unfold fX1_markBy at hf
  refine x_sub (lv' := [(0, .ref (ad 30)), (1, .int a1), (2, .ref (ad c2)), (3, .int a3), (4, .int a4)]) [0, 1, 2, 3, 4] rfl ?_
  refine x_iload_n B dX1_markBy_0 rfl 1 rfl ?_
  by_cases h1 : a1 = 20
  · replace hf := x_it h1 hf
    refine x_tableIn (tgt := 36) (off := 35) B dX1_markBy_1 (by rw [h1]; decide) (by rw [h1]; decide) (by rw [h1]; rfl) (by decide) ?_
    refine x_iload_n B dX1_markBy_36 rfl 3 rfl ?_
    obtain ⟨rfl, rfl⟩ := x_retI hf
    exact x_iret B hr dX1_markBy_37
  · replace hf := x_if h1 hf
    by_cases h2 : a1 = 21
    · replace hf := x_it h2 hf
      refine x_tableIn (tgt := 38) (off := 37) B dX1_markBy_1 (by rw [h2]; decide) (by rw [h2]; decide) (by rw [h2]; rfl) (by decide) ?_
      refine x_aload_n B dX1_markBy_38 rfl 0 rfl ?_
      refine x_bipush (v := 20) B dX1_markBy_39 (by decide) ?_
      refine x_aload_n B dX1_markBy_41 rfl 2 rfl ?_
      refine x_iload_n B dX1_markBy_42 rfl 3 rfl ?_
      refine x_iload B dX1_markBy_43 4 rfl ?_
      obtain ⟨r4, σ5, e3, hf⟩ := x_bs hf
      refine x_callV (As := [.int 20, .ref (ad c2), .int a3, .int a4]) (st := []) B G (hrec _ _ _ _ _ _ _ hc2 e3) (cwV 4 B.2.2.2.2.1 gX1_markBy_X1_given rfl rfl rfl hdX1_given (x_rm_ok (by omega) (by decide))) (by decide) s_c30 rfl rfl rfl (Nat.le_of_ble_eq_true rfl) ⟨Nat.zero_le _, Nat.zero_le _⟩ dX1_markBy_45 ?_
      refine x_aload_n B dX1_markBy_48 rfl 2 rfl ?_
      refine x_get (v := .ref (ad (c2 + 4))) (kc := c2) (index := 62) B G.1 iX1_markBy_cX2 rfl (s_kC hc2) (s_cC hc2) 9 (by decide) iX1_markBy_0 rfl dX1_markBy_49 ?_
      refine x_iload_n B dX1_markBy_52 rfl 3 rfl ?_
      obtain ⟨h6, hf⟩ := x_gs hf
      refine x_iald (kc := c2 + 4) (t0 := 0) B G.1 (s_kC4 hc2) (s_cC4 hc2) rfl h6 dX1_markBy_53 ?_
      refine x_iadd B dX1_markBy_54 ?_
      obtain ⟨rfl, rfl⟩ := x_retI hf
      exact x_iret B hr dX1_markBy_55
    · replace hf := x_if h2 hf
      by_cases h7 : a1 = 22
      · replace hf := x_it h7 hf
        refine x_tableIn (tgt := 56) (off := 55) B dX1_markBy_1 (by rw [h7]; decide) (by rw [h7]; decide) (by rw [h7]; rfl) (by decide) ?_
        refine x_aload_n B dX1_markBy_56 rfl 0 rfl ?_
        refine x_bipush (v := 21) B dX1_markBy_57 (by decide) ?_
        refine x_aload_n B dX1_markBy_59 rfl 2 rfl ?_
        refine x_iload_n B dX1_markBy_60 rfl 3 rfl ?_
        refine x_iload B dX1_markBy_61 4 rfl ?_
        obtain ⟨r9, σ10, e8, hf⟩ := x_bs hf
        refine x_callV (As := [.int 21, .ref (ad c2), .int a3, .int a4]) (st := []) B G (hrec _ _ _ _ _ _ _ hc2 e8) (cwV 4 B.2.2.2.2.1 gX1_markBy_X1_given rfl rfl rfl hdX1_given (x_rm_ok (by omega) (by decide))) (by decide) s_c30 rfl rfl rfl (Nat.le_of_ble_eq_true rfl) ⟨Nat.zero_le _, Nat.zero_le _⟩ dX1_markBy_63 ?_
        refine x_sipush (v := 1000) B dX1_markBy_66 (by decide) ?_
        refine x_isub B dX1_markBy_69 ?_
        obtain ⟨rfl, rfl⟩ := x_retI hf
        exact x_iret B hr dX1_markBy_70
      · replace hf := x_if h7 hf
        by_cases h11 : a1 = 23
        · replace hf := x_it h11 hf
          refine x_tableIn (tgt := 71) (off := 70) B dX1_markBy_1 (by rw [h11]; decide) (by rw [h11]; decide) (by rw [h11]; rfl) (by decide) ?_
          refine x_aload_n B dX1_markBy_71 rfl 0 rfl ?_
          refine x_bipush (v := 20) B dX1_markBy_72 (by decide) ?_
          refine x_aload_n B dX1_markBy_74 rfl 2 rfl ?_
          refine x_iload_n B dX1_markBy_75 rfl 3 rfl ?_
          refine x_iload B dX1_markBy_76 4 rfl ?_
          obtain ⟨r13, σ14, e12, hf⟩ := x_bs hf
          refine x_callV (As := [.int 20, .ref (ad c2), .int a3, .int a4]) (st := []) B G (hrec _ _ _ _ _ _ _ hc2 e12) (cwV 4 B.2.2.2.2.1 gX1_markBy_X1_given rfl rfl rfl hdX1_given (x_rm_ok (by omega) (by decide))) (by decide) s_c30 rfl rfl rfl (Nat.le_of_ble_eq_true rfl) ⟨Nat.zero_le _, Nat.zero_le _⟩ dX1_markBy_78 ?_
          refine x_aload_n B dX1_markBy_81 rfl 0 rfl ?_
          refine x_aload_n B dX1_markBy_82 rfl 2 rfl ?_
          refine x_iload_n B dX1_markBy_83 rfl 3 rfl ?_
          refine x_iconst (v := 0) B dX1_markBy_84 (by decide) ?_
          refine x_iload B dX1_markBy_85 4 rfl ?_
          obtain ⟨r16, σ17, e15, hf⟩ := x_bs hf
          refine x_callV (As := [.ref (ad c2), .int a3, .int 0, .int a4]) (st := [.int r13]) B G (mX1_asked (l := l) G.1.2.1 hrec hc2 e15) (cwV 4 B.2.2.2.2.1 gX1_markBy_X1_asked rfl rfl rfl hdX1_asked (x_rm_ok (by omega) (by decide))) (by decide) s_c30 rfl rfl rfl (Nat.le_of_ble_eq_true rfl) ⟨Nat.zero_le _, Nat.zero_le _⟩ dX1_markBy_87 ?_
          refine x_isub B dX1_markBy_90 ?_
          obtain ⟨rfl, rfl⟩ := x_retI hf
          exact x_iret B hr dX1_markBy_91
        · replace hf := x_if h11 hf
          by_cases h18 : a1 = 24
          · replace hf := x_it h18 hf
            refine x_tableIn (tgt := 92) (off := 91) B dX1_markBy_1 (by rw [h18]; decide) (by rw [h18]; decide) (by rw [h18]; rfl) (by decide) ?_
            refine x_iconst (v := 2) B dX1_markBy_92 (by decide) ?_
            refine x_aload_n B dX1_markBy_93 rfl 0 rfl ?_
            refine x_bipush (v := 21) B dX1_markBy_94 (by decide) ?_
            refine x_aload_n B dX1_markBy_96 rfl 2 rfl ?_
            refine x_iload_n B dX1_markBy_97 rfl 3 rfl ?_
            refine x_iload B dX1_markBy_98 4 rfl ?_
            obtain ⟨r20, σ21, e19, hf⟩ := x_bs hf
            refine x_callV (As := [.int 21, .ref (ad c2), .int a3, .int a4]) (st := [.int 2]) B G (hrec _ _ _ _ _ _ _ hc2 e19) (cwV 4 B.2.2.2.2.1 gX1_markBy_X1_given rfl rfl rfl hdX1_given (x_rm_ok (by omega) (by decide))) (by decide) s_c30 rfl rfl rfl (Nat.le_of_ble_eq_true rfl) ⟨Nat.zero_le _, Nat.zero_le _⟩ dX1_markBy_100 ?_
            refine x_imul B dX1_markBy_103 ?_
            obtain ⟨rfl, rfl⟩ := x_retI hf
            exact x_iret B hr dX1_markBy_104
          · replace hf := x_if h18 hf
            refine x_tableOut (tgt := 105) B dX1_markBy_1 (by have g0 := lv_neT (a := 20) h1 rfl; have g1 := lv_neT (a := 21) h2 rfl; have g2 := lv_neT (a := 22) h7 rfl; have g3 := lv_neT (a := 23) h11 rfl; have g4 := lv_neT (a := 24) h18 rfl; omega) (by decide) ?_
            refine x_iconst (v := 0) B dX1_markBy_105 (by decide) ?_
            obtain ⟨rfl, rfl⟩ := x_retI hf
            exact x_iret B hr dX1_markBy_106
set_option maxRecDepth 100000 in
set_option maxHeartbeats 4000000 in
theorem nX1_given {σ : x_S} {rec : Int32 → Nat → Int32 → Int32 → x_S → Option (Int32 × x_S)} {a1 : Int32} {c2 : Nat} {a3 : Int32} {a4 : Int32} (hdis : x_dis s_N ad) (hrec : ∀ (a1 : Int32) (c2 : Nat) (a3 : Int32) (a4 : Int32) (σ : x_S) (r0 : Int32) (σ0 : x_S), s_iC c2 → rec a1 c2 a3 a4 σ = some (r0, σ0) → x_NI l yX1_given wsX1_given k D vwCl (s_tys cI cQ cC cZ) s_N (s_C cI cQ cC ad) ad (s_St aS) s_NW [.ref (ad 30), .int a1, .ref (ad c2), .int a3, .int a4] σ r0 σ0) (hc2 : s_iC c2) (hf : hX1_given rec a1 c2 a3 a4 σ = some (r0, σ0)) : x_NI l yX1_given wsX1_given (k + 4) D vwCl (s_tys cI cQ cC cZ) s_N (s_C cI cQ cC ad) ad (s_St aS) s_NW [.ref (ad 30), .int a1, .ref (ad c2), .int a3, .int a4] σ r0 σ0 := by
  refine x_met (cc := cX1_given) (own := RX1) (maxL := 5) (ret := (some .int)) (by decide +kernel) rfl rfl (Nat.le_of_ble_eq_true rfl) hdis (s_StOk aS) s_NwOk (fun p e s m args below meth c B G hr => ?_)
  unfold hX1_given at hf
  refine x_sub (lv' := [(0, .ref (ad 30)), (1, .int a1), (2, .ref (ad c2)), (3, .int a3), (4, .int a4)]) [0, 1, 2, 3, 4] rfl ?_
  refine x_iload B dX1_given_0 4 rfl ?_
  refine x_bipush (v := 16) B dX1_given_2 (by decide) ?_
  refine x_icmp_lt (tgt := 9) B dX1_given_4 (by decide) (fun h1 => ?_) (fun h1 => ?_)
  · replace hf := x_it h1 hf
    refine x_aload_n B dX1_given_9 rfl 0 rfl ?_
    refine x_iload_n B dX1_given_10 rfl 1 rfl ?_
    obtain ⟨σ3, e2, hf⟩ := x_vs hf
    refine x_callVv (As := [.int a1]) (st := []) B G (mX1_leave (l := l) G.1.2.1  e2) (cwV 1 B.2.2.2.2.1 gX1_given_X1_leave rfl rfl rfl hdX1_leave (x_rm_ok (by omega) (by decide))) (by decide) s_c30 rfl rfl rfl (Nat.le_of_ble_eq_true rfl) ⟨Nat.zero_le _, Nat.zero_le _⟩ dX1_given_11 ?_
    refine x_iload_n B dX1_given_14 rfl 1 rfl ?_
    refine x_bipush (v := 20) B dX1_given_15 (by decide) ?_
    refine x_icmp_ge (tgt := 32) B dX1_given_17 (by decide) (fun h4 => ?_) (fun h4 => ?_)
    · replace hf := x_it h4 hf
      refine x_aload_n B dX1_given_32 rfl 0 rfl ?_
      refine x_iload_n B dX1_given_33 rfl 1 rfl ?_
      refine x_aload_n B dX1_given_34 rfl 2 rfl ?_
      refine x_iload_n B dX1_given_35 rfl 3 rfl ?_
      refine x_iload B dX1_given_36 4 rfl ?_
      refine x_iconst (v := 1) B dX1_given_38 (by decide) ?_
      refine x_iadd B dX1_given_39 ?_
      obtain ⟨r6, σ7, e5, hf⟩ := x_bs hf
      refine x_callV (As := [.int a1, .ref (ad c2), .int a3, .int (a4 + 1)]) (st := []) B G (mX1_markBy (l := l) G.1.2.1 hrec hc2 e5) (cwV 4 B.2.2.2.2.1 gX1_given_X1_markBy rfl rfl rfl hdX1_markBy (x_rm_ok (by omega) (by decide))) (by decide) s_c30 rfl rfl rfl (Nat.le_of_ble_eq_true rfl) ⟨Nat.zero_le _, Nat.zero_le _⟩ dX1_given_40 ?_
      obtain ⟨rfl, rfl⟩ := x_retI hf
      exact x_iret B hr dX1_given_43
    · replace hf := x_if h4 hf
      refine x_aload_n B dX1_given_20 rfl 0 rfl ?_
      refine x_iload_n B dX1_given_21 rfl 1 rfl ?_
      refine x_aload_n B dX1_given_22 rfl 2 rfl ?_
      refine x_iload_n B dX1_given_23 rfl 3 rfl ?_
      refine x_iload B dX1_given_24 4 rfl ?_
      refine x_iconst (v := 1) B dX1_given_26 (by decide) ?_
      refine x_iadd B dX1_given_27 ?_
      obtain ⟨r9, σ10, e8, hf⟩ := x_bs hf
      refine x_callV (As := [.int a1, .ref (ad c2), .int a3, .int (a4 + 1)]) (st := []) B G (mX1_sizeBy (l := l) G.1.2.1 hrec hc2 e8) (cwV 4 B.2.2.2.2.1 gX1_given_X1_sizeBy rfl rfl rfl hdX1_sizeBy (x_rm_ok (by omega) (by decide))) (by decide) s_c30 rfl rfl rfl (Nat.le_of_ble_eq_true rfl) ⟨Nat.zero_le _, Nat.zero_le _⟩ dX1_given_28 ?_
      obtain ⟨rfl, rfl⟩ := x_retI hf
      exact x_iret B hr dX1_given_31
  · replace hf := x_if h1 hf
    refine x_iconst (v := 0) B dX1_given_7 (by decide) ?_
    obtain ⟨rfl, rfl⟩ := x_retI hf
    exact x_iret B hr dX1_given_8
set_option maxRecDepth 100000 in
set_option maxHeartbeats 4000000 in
theorem mX1_given_n (hdis : x_dis s_N ad) : ∀ (n : Nat) (a1 : Int32) (c2 : Nat) (a3 : Int32) (a4 : Int32) (σ : x_S) (r0 : Int32) (σ0 : x_S), s_iC c2 → fX1_given_n n a1 c2 a3 a4 σ = some (r0, σ0) → x_NI l yX1_given wsX1_given (0 + 4 * n) D vwCl (s_tys cI cQ cC cZ) s_N (s_C cI cQ cC ad) ad (s_St aS) s_NW [.ref (ad 30), .int a1, .ref (ad c2), .int a3, .int a4] σ r0 σ0 := by
  intro n
  induction n with
  | zero => intro a1 c2 a3 a4 σ r0 σ0 hc2 h; cases h
  | succ n ih =>
    intro a1 c2 a3 a4 σ r0 σ0 hc2 h
    have := nX1_given (l := l) (rec := fX1_given_n n) (k := 0 + 4 * n) hdis ih hc2 h
    exact this
theorem iX1_answer_0 : Cond.fieldLink RX1 15 "SignDuty$Asks" "left" "I" ∈ wsX1_answer := by decide +kernel
theorem iX1_answer_cX1 : ∀ w ∈ u_ws RX1 TX1 2, w ∈ wsX1_answer := by decide +kernel
set_option maxRecDepth 100000 in
set_option maxHeartbeats 4000000 in
theorem mX1_answer {σ : x_S} {c1 : Nat} {a2 : Int32} {a3 : Int32} (hdis : x_dis s_N ad) (hc1 : s_iC c1) (hf : fX1_answer c1 a2 a3 σ = some (r0, σ0)) : x_NI l yX1_answer wsX1_answer 51 D vwCl (s_tys cI cQ cC cZ) s_N (s_C cI cQ cC ad) ad (s_St aS) s_NW [.ref (ad 30), .ref (ad c1), .int a2, .int a3] σ r0 σ0 := by
  refine x_met (cc := cX1_answer) (own := RX1) (maxL := 4) (ret := (some .int)) (by decide +kernel) rfl rfl (Nat.le_of_ble_eq_true rfl) hdis (s_StOk aS) s_NwOk (fun p e s m args below meth c B G hr => ?_)
  unfold fX1_answer at hf
  refine x_sub (lv' := [(0, .ref (ad 30)), (1, .ref (ad c1)), (2, .int a2), (3, .int a3)]) [0, 1, 2, 3] rfl ?_
  refine x_aload_n B dX1_answer_0 rfl 0 rfl ?_
  refine x_iconst (v := 0) B dX1_answer_1 (by decide) ?_
  obtain ⟨σ1, u2, hf⟩ := x_ws hf
  refine x_put (v := 0) (ty := .int) (kc := 30) (index := 15) B G.1 iX1_answer_cX1 tyX1 tyX1_ok nmX1 rfl (by decide) s_c30 1 (by decide) iX1_answer_0 rfl rfl rfl rfl (Nat.le_of_ble_eq_true rfl) (s_w1_1 _ _) dX1_answer_2 ?_
  refine x_nm u2 ?_
  refine x_aload_n B dX1_answer_5 rfl 0 rfl ?_
  refine x_aload_n B dX1_answer_6 rfl 1 rfl ?_
  refine x_iload_n B dX1_answer_7 rfl 2 rfl ?_
  refine x_iload_n B dX1_answer_8 rfl 3 rfl ?_
  refine x_iconst (v := 0) B dX1_answer_9 (by decide) ?_
  obtain ⟨r4, σ5, e3, hf⟩ := x_bs hf
  refine x_callV (As := [.ref (ad c1), .int a2, .int a3, .int 0]) (st := []) B G (mX1_asked (l := l) (k := 0 + 4 * 12) G.1.2.1 (mX1_given_n (l := l) G.1.2.1 12) hc1 e3) (cwV 4 B.2.2.2.2.1 gX1_answer_X1_asked rfl rfl rfl hdX1_asked (x_rm_ok (by omega) (by decide))) (by decide) s_c30 rfl rfl rfl (Nat.le_of_ble_eq_true rfl) ⟨Nat.zero_le _, Nat.zero_le _⟩ dX1_answer_10 ?_
  obtain ⟨rfl, rfl⟩ := x_retI hf
  exact x_iret B hr dX1_answer_13
theorem iX1_numberLeft_0 : Cond.constant RX1 23 (-1000000) ∈ wsX1_numberLeft := by decide +kernel
theorem iX1_numberLeft_1 : Cond.fieldLink RX1 15 "SignDuty$Asks" "left" "I" ∈ wsX1_numberLeft := by decide +kernel
theorem iX1_numberLeft_cX1 : ∀ w ∈ u_ws RX1 TX1 2, w ∈ wsX1_numberLeft := by decide +kernel
theorem iX1_numberLeft_3 : Cond.fieldLink RX1 11 "SignDuty$Asks" "numbers" "[I" ∈ wsX1_numberLeft := by decide +kernel
set_option maxRecDepth 100000 in
set_option maxHeartbeats 4000000 in
theorem mX1_numberLeft {σ : x_S} {a1 : Int32} (hdis : x_dis s_N ad) (hf : fX1_numberLeft a1 σ = some r0) : x_NI l yX1_numberLeft wsX1_numberLeft 0 D vwCl (s_tys cI cQ cC cZ) s_N (s_C cI cQ cC ad) ad (s_St aS) s_NW [.ref (ad 30), .int a1] σ r0 σ := by
  refine x_met (cc := cX1_numberLeft) (own := RX1) (maxL := 2) (ret := (some .int)) (by decide +kernel) rfl rfl (Nat.le_of_ble_eq_true rfl) hdis (s_StOk aS) s_NwOk (fun p e s m args below meth c B G hr => ?_)
  unfold fX1_numberLeft at hf
  refine x_sub (lv' := [(0, .ref (ad 30)), (1, .int a1)]) [0, 1] rfl ?_
  refine x_iload_n B dX1_numberLeft_0 rfl 1 rfl ?_
  refine x_if_lt (tgt := 21) B dX1_numberLeft_1 (by decide) (fun h1 => ?_) (fun h1 => ?_)
  · replace hf := x_it h1 hf
    refine x_ldc (v := (-1000000)) B iX1_numberLeft_0 dX1_numberLeft_21 ?_
    obtain rfl := x_retP hf
    exact x_iret B hr dX1_numberLeft_23
  · replace hf := x_if h1 hf
    refine x_iload_n B dX1_numberLeft_4 rfl 1 rfl ?_
    refine x_aload_n B dX1_numberLeft_5 rfl 0 rfl ?_
    refine x_get (v := .int (σ 30 1)) (kc := 30) (index := 15) B G.1 iX1_numberLeft_cX1 rfl (by decide) s_c30 1 (by decide) iX1_numberLeft_1 rfl dX1_numberLeft_6 ?_
    refine x_icmp_ge (tgt := 21) B dX1_numberLeft_9 (by decide) (fun h2 => ?_) (fun h2 => ?_)
    · replace hf := x_it h2 hf
      refine x_ldc (v := (-1000000)) B iX1_numberLeft_0 dX1_numberLeft_21 ?_
      obtain rfl := x_retP hf
      exact x_iret B hr dX1_numberLeft_23
    · replace hf := x_if h2 hf
      refine x_aload_n B dX1_numberLeft_12 rfl 0 rfl ?_
      refine x_get (v := .ref (ad 31)) (kc := 30) (index := 11) B G.1 iX1_numberLeft_cX1 rfl (by decide) s_c30 0 (by decide) iX1_numberLeft_3 rfl dX1_numberLeft_13 ?_
      refine x_iload_n B dX1_numberLeft_16 rfl 1 rfl ?_
      obtain ⟨h3, hf⟩ := x_gs hf
      refine x_iald (kc := 31) (t0 := 0) B G.1 (by decide) s_c31 rfl h3 dX1_numberLeft_17 ?_
      refine x_goto (tgt := 23) B dX1_numberLeft_18 (by decide) ?_
      obtain rfl := x_retP hf
      exact x_iret B hr dX1_numberLeft_23
set_option maxRecDepth 100000 in
set_option maxHeartbeats 4000000 in
theorem qX5_howMany_4 {σ : x_S} {x1 : Int32} {x2 : Int32} {K4 : Int32 → Int32 → Option Int32} (B : x_B p s m args meth c cX5_howMany 3 wsX5_howMany RX5) (G : x_H s D vwCl (s_tys cI cQ cC cZ) s_N ad (x_A s_N ad) (s_St aS) s_NW) (hr : meth.sig.returnType = (some .int)) (hK4 : ∀ (x1 : Int32) (x2 : Int32), K4 x1 x2 = some r0 → x_J p l e (x_rm 1) s m args below meth c 0 0 (MQ below (x_Qi D vwCl s_N (s_C cI cQ cC ad) ad r0 σ) args s 0 0 (x_A s_N ad)) (x_A s_N ad) 3 (x_I D vwCl s_N (s_C cI cQ cC ad) ad σ) [(0, .ref (ad 1)), (1, .int x1), (2, .int x2)] [] 4) (hf : gX5_howMany_4   K4 x1 x2 σ = some r0) : x_J p l e (x_rm 1) s m args below meth c 0 0 (MQ below (x_Qi D vwCl s_N (s_C cI cQ cC ad) ad r0 σ) args s 0 0 (x_A s_N ad)) (x_A s_N ad) 3 (x_I D vwCl s_N (s_C cI cQ cC ad) ad σ) [(0, .ref (ad 1)), (1, .int x1), (2, .int x2)] [] 4 := by
  unfold gX5_howMany_4 at hf
  refine x_iload_n B dX5_howMany_4 rfl 2 rfl ?_
  refine x_bipush (v := 8) B dX5_howMany_5 (by decide) ?_
  refine x_icmp_ge (tgt := 32) B dX5_howMany_7 (by decide) (fun h1 => ?_) (fun h1 => ?_)
  · replace hf := x_it h1 hf
    refine x_iload_n B dX5_howMany_32 rfl 1 rfl ?_
    obtain rfl := x_retP hf
    exact x_iret B hr dX5_howMany_33
  · replace hf := x_if h1 hf
    refine x_iload_n B dX5_howMany_10 rfl 1 rfl ?_
    refine x_aload_n B dX5_howMany_11 rfl 0 rfl ?_
    refine x_iload_n B dX5_howMany_12 rfl 2 rfl ?_
    obtain ⟨r3, e2, hf⟩ := x_ps hf
    refine x_callV (As := [.int x2]) (st := [.int x1]) B G (mX5_isMissing (l := l) G.1.2.1  e2) (cwV 1 B.2.2.2.2.1 gX5_howMany_X5_isMissing rfl rfl rfl hdX5_isMissing (x_rm_ok (by omega) (by decide))) (by decide) s_c1 rfl rfl rfl (Nat.le_of_ble_eq_true rfl) ⟨Nat.zero_le _, Nat.zero_le _⟩ dX5_howMany_13 ?_
    refine x_if_eq (tgt := 23) B dX5_howMany_16 (by decide) (fun h4 => ?_) (fun h4 => ?_)
    · replace hf := x_it h4 hf
      refine x_iconst (v := 1) B dX5_howMany_23 (by decide) ?_
      refine x_iadd B dX5_howMany_24 ?_
      refine x_istore_n (lv' := [(1, .int (x1 + 1)), (0, .ref (ad 1)), (2, .int x2)]) B dX5_howMany_25 rfl (by decide) rfl ?_
      refine x_iinc (v := (x2 + 1)) (lv' := [(2, .int (x2 + 1)), (1, .int (x1 + 1)), (0, .ref (ad 1))]) B dX5_howMany_26 2 rfl rfl (by decide) rfl ?_
      refine x_goto (tgt := 4) B dX5_howMany_29 (by decide) ?_
      refine x_sub [2, 1, 0] rfl ?_
      exact hK4 _ _ hf
    · replace hf := x_if h4 hf
      refine x_iconst (v := 0) B dX5_howMany_19 (by decide) ?_
      refine x_goto (tgt := 24) B dX5_howMany_20 (by decide) ?_
      refine x_iadd B dX5_howMany_24 ?_
      refine x_istore_n (lv' := [(1, .int (x1 + 0)), (0, .ref (ad 1)), (2, .int x2)]) B dX5_howMany_25 rfl (by decide) rfl ?_
      refine x_iinc (v := (x2 + 1)) (lv' := [(2, .int (x2 + 1)), (1, .int (x1 + 0)), (0, .ref (ad 1))]) B dX5_howMany_26 2 rfl rfl (by decide) rfl ?_
      refine x_goto (tgt := 4) B dX5_howMany_29 (by decide) ?_
      refine x_sub [2, 1, 0] rfl ?_
      exact hK4 _ _ hf
set_option maxRecDepth 100000 in
set_option maxHeartbeats 4000000 in
theorem kX5_howMany_4 {σ : x_S} {x1 : Int32} {x2 : Int32} (B : x_B p s m args meth c cX5_howMany 3 wsX5_howMany RX5) (G : x_H s D vwCl (s_tys cI cQ cC cZ) s_N ad (x_A s_N ad) (s_St aS) s_NW) (hr : meth.sig.returnType = (some .int)) (hf : bX5_howMany_4   x1 x2 σ = some r0) : x_J p l e (x_rm 1) s m args below meth c 0 0 (MQ below (x_Qi D vwCl s_N (s_C cI cQ cC ad) ad r0 σ) args s 0 0 (x_A s_N ad)) (x_A s_N ad) 3 (x_I D vwCl s_N (s_C cI cQ cC ad) ad σ) [(0, .ref (ad 1)), (1, .int x1), (2, .int x2)] [] 4 := by
  have key : ∀ (n : Nat) (x1 : Int32) (x2 : Int32), x_fx (α := Int32 → Int32 → Option Int32) (fun _ _ => none) (fun K => fun x1 x2 => gX5_howMany_4   K x1 x2 σ) n x1 x2 = some r0 → x_J p l e (x_rm 1) s m args below meth c 0 0 (MQ below (x_Qi D vwCl s_N (s_C cI cQ cC ad) ad r0 σ) args s 0 0 (x_A s_N ad)) (x_A s_N ad) 3 (x_I D vwCl s_N (s_C cI cQ cC ad) ad σ) [(0, .ref (ad 1)), (1, .int x1), (2, .int x2)] [] 4 := by
    intro n
    induction n with
    | zero => intro x1 x2 h; cases h
    | succ n ih => intro x1 x2 h; exact qX5_howMany_4 B G hr  ih  h
  exact key x_F x1 x2 hf
set_option maxRecDepth 100000 in
set_option maxHeartbeats 4000000 in
theorem mX5_howMany {σ : x_S} (hdis : x_dis s_N ad) (hf : fX5_howMany  σ = some r0) : x_NI l yX5_howMany wsX5_howMany 1 D vwCl (s_tys cI cQ cC cZ) s_N (s_C cI cQ cC ad) ad (s_St aS) s_NW [.ref (ad 1)] σ r0 σ := by
  refine x_met (cc := cX5_howMany) (own := RX5) (maxL := 3) (ret := (some .int)) (by decide +kernel) rfl rfl (Nat.le_of_ble_eq_true rfl) hdis (s_StOk aS) s_NwOk (fun p e s m args below meth c B G hr => ?_)
  unfold fX5_howMany at hf
  refine x_sub (lv' := [(0, .ref (ad 1))]) [0] rfl ?_
  refine x_iconst (v := 0) B dX5_howMany_0 (by decide) ?_
  refine x_istore_n (lv' := [(1, .int 0), (0, .ref (ad 1))]) B dX5_howMany_1 rfl (by decide) rfl ?_
  refine x_iconst (v := 0) B dX5_howMany_2 (by decide) ?_
  refine x_istore_n (lv' := [(2, .int 0), (1, .int 0), (0, .ref (ad 1))]) B dX5_howMany_3 rfl (by decide) rfl ?_
  refine x_sub [2, 1, 0] rfl ?_
  exact kX5_howMany_4 B G hr hf
end G
