section G
variable {p : Program} {l : Launch} {e : Env} {s : State} {m : MethodId} {args : Array Value} {below : List Frame} {meth : Method} {c : Code}
variable {D : va_G} {cI cQ cC cZ : ClassId} {ad aS : Nat → Nat} {r0 : Int32} {σ0 : x_S}
theorem hdX7_isWithin : yX7_isWithin.cls ≠ "java/lang/invoke/MethodHandle" ∧ yX7_isWithin.cls ≠ "java/lang/invoke/VarHandle" ∧ (parseMethodDescriptor yX7_isWithin.desc).map (fun d => d.parameters.length) = some 3 := by decide +kernel
theorem hdX4_isFull : yX4_isFull.cls = RX4 ∧ yX4_isFull.cls ≠ "java/lang/invoke/MethodHandle" ∧ yX4_isFull.cls ≠ "java/lang/invoke/VarHandle" ∧ (parseMethodDescriptor yX4_isFull.desc).map (fun d => d.parameters.length) = some 0 := by decide +kernel
theorem hdX4_append : yX4_append.cls = RX4 ∧ yX4_append.cls ≠ "java/lang/invoke/MethodHandle" ∧ yX4_append.cls ≠ "java/lang/invoke/VarHandle" ∧ (parseMethodDescriptor yX4_append.desc).map (fun d => d.parameters.length) = some 1 := by decide +kernel
theorem hdX4_next : yX4_next.cls = RX4 ∧ yX4_next.cls ≠ "java/lang/invoke/MethodHandle" ∧ yX4_next.cls ≠ "java/lang/invoke/VarHandle" ∧ (parseMethodDescriptor yX4_next.desc).map (fun d => d.parameters.length) = some 0 := by decide +kernel
theorem hdX4_failAt : yX4_failAt.cls = RX4 ∧ yX4_failAt.cls ≠ "java/lang/invoke/MethodHandle" ∧ yX4_failAt.cls ≠ "java/lang/invoke/VarHandle" ∧ (parseMethodDescriptor yX4_failAt.desc).map (fun d => d.parameters.length) = some 2 := by decide +kernel
theorem hdX4_fail : yX4_fail.cls = RX4 ∧ yX4_fail.cls ≠ "java/lang/invoke/MethodHandle" ∧ yX4_fail.cls ≠ "java/lang/invoke/VarHandle" ∧ (parseMethodDescriptor yX4_fail.desc).map (fun d => d.parameters.length) = some 1 := by decide +kernel
theorem hdX4_readSign : yX4_readSign.cls = RX4 ∧ yX4_readSign.cls ≠ "java/lang/invoke/MethodHandle" ∧ yX4_readSign.cls ≠ "java/lang/invoke/VarHandle" ∧ (parseMethodDescriptor yX4_readSign.desc).map (fun d => d.parameters.length) = some 1 := by decide +kernel
theorem hdX4_readNumber : yX4_readNumber.cls = RX4 ∧ yX4_readNumber.cls ≠ "java/lang/invoke/MethodHandle" ∧ yX4_readNumber.cls ≠ "java/lang/invoke/VarHandle" ∧ (parseMethodDescriptor yX4_readNumber.desc).map (fun d => d.parameters.length) = some 2 := by decide +kernel
theorem hdX4_readLaw : yX4_readLaw.cls = RX4 ∧ yX4_readLaw.cls ≠ "java/lang/invoke/MethodHandle" ∧ yX4_readLaw.cls ≠ "java/lang/invoke/VarHandle" ∧ (parseMethodDescriptor yX4_readLaw.desc).map (fun d => d.parameters.length) = some 1 := by decide +kernel
theorem hdX4_readStreet : yX4_readStreet.cls = RX4 ∧ yX4_readStreet.cls ≠ "java/lang/invoke/MethodHandle" ∧ yX4_readStreet.cls ≠ "java/lang/invoke/VarHandle" ∧ (parseMethodDescriptor yX4_readStreet.desc).map (fun d => d.parameters.length) = some 1 := by decide +kernel
theorem hdX4_readGesture : yX4_readGesture.cls = RX4 ∧ yX4_readGesture.cls ≠ "java/lang/invoke/MethodHandle" ∧ yX4_readGesture.cls ≠ "java/lang/invoke/VarHandle" ∧ (parseMethodDescriptor yX4_readGesture.desc).map (fun d => d.parameters.length) = some 1 := by decide +kernel
theorem hdX4_reads : yX4_reads.cls = RX4 ∧ yX4_reads.cls ≠ "java/lang/invoke/MethodHandle" ∧ yX4_reads.cls ≠ "java/lang/invoke/VarHandle" ∧ (parseMethodDescriptor yX4_reads.desc).map (fun d => d.parameters.length) = some 1 := by decide +kernel
set_option maxRecDepth 100000 in
set_option maxHeartbeats 4000000 in
theorem mX7_isWithin {σ : x_S} {a0 : Int32} {a1 : Int32} {a2 : Int32} (hdis : x_dis s_N ad) (hf : fX7_isWithin a0 a1 a2 σ = some r0) : x_NI l yX7_isWithin wsX7_isWithin 0 D vwCl (s_tys cI cQ cC cZ) s_N (s_C cI cQ cC ad) ad (s_St aS) s_NW [.int a0, .int a1, .int a2] σ r0 σ := by
  refine x_met (cc := cX7_isWithin) (own := RX7) (maxL := 3) (ret := (some .boolean)) (by decide +kernel) rfl rfl (Nat.le_of_ble_eq_true rfl) hdis (s_StOk aS) s_NwOk (fun p e s m args below meth c B G hr => ?_)
  unfold fX7_isWithin at hf
  refine x_sub (lv' := [(0, .int a0), (1, .int a1), (2, .int a2)]) [0, 1, 2] rfl ?_
  refine x_iload_n B dX7_isWithin_0 rfl 0 rfl ?_
  refine x_iload_n B dX7_isWithin_1 rfl 1 rfl ?_
  refine x_icmp_lt (tgt := 14) B dX7_isWithin_2 (by decide) (fun h1 => ?_) (fun h1 => ?_)
  · replace hf := x_it h1 hf
    refine x_iconst (v := 0) B dX7_isWithin_14 (by decide) ?_
    obtain rfl := x_retP hf
    exact x_zret B hr (by decide) dX7_isWithin_15
  · replace hf := x_if h1 hf
    refine x_iload_n B dX7_isWithin_5 rfl 0 rfl ?_
    refine x_iload_n B dX7_isWithin_6 rfl 2 rfl ?_
    refine x_icmp_gt (tgt := 14) B dX7_isWithin_7 (by decide) (fun h2 => ?_) (fun h2 => ?_)
    · replace hf := x_it h2 hf
      refine x_iconst (v := 0) B dX7_isWithin_14 (by decide) ?_
      obtain rfl := x_retP hf
      exact x_zret B hr (by decide) dX7_isWithin_15
    · replace hf := x_if h2 hf
      refine x_iconst (v := 1) B dX7_isWithin_10 (by decide) ?_
      refine x_goto (tgt := 15) B dX7_isWithin_11 (by decide) ?_
      obtain rfl := x_retP hf
      exact x_zret B hr (by decide) dX7_isWithin_15
theorem iX4_isFull_0 : Cond.fieldLink RX4 15 "SignDuty$Reader" "length" "I" ∈ wsX4_isFull := by decide +kernel
theorem iX4_isFull_cX4 : ∀ w ∈ u_ws RX4 TX4 6, w ∈ wsX4_isFull := by decide +kernel
set_option maxRecDepth 100000 in
set_option maxHeartbeats 4000000 in
theorem mX4_isFull {σ : x_S} (hdis : x_dis s_N ad) (hf : fX4_isFull  σ = some r0) : x_NI l yX4_isFull wsX4_isFull 0 D vwCl (s_tys cI cQ cC cZ) s_N (s_C cI cQ cC ad) ad (s_St aS) s_NW [.ref (ad 13)] σ r0 σ := by
  refine x_met (cc := cX4_isFull) (own := RX4) (maxL := 1) (ret := (some .boolean)) (by decide +kernel) rfl rfl (Nat.le_of_ble_eq_true rfl) hdis (s_StOk aS) s_NwOk (fun p e s m args below meth c B G hr => ?_)
  unfold fX4_isFull at hf
  refine x_sub (lv' := [(0, .ref (ad 13))]) [0] rfl ?_
  refine x_aload_n B dX4_isFull_0 rfl 0 rfl ?_
  refine x_get (v := .int (σ 13 1)) (kc := 13) (index := 15) B G.1 iX4_isFull_cX4 rfl (by decide) s_c13 1 (by decide) iX4_isFull_0 rfl dX4_isFull_1 ?_
  refine x_bipush (v := 120) B dX4_isFull_4 (by decide) ?_
  refine x_icmp_lt (tgt := 13) B dX4_isFull_6 (by decide) (fun h1 => ?_) (fun h1 => ?_)
  · replace hf := x_it h1 hf
    refine x_iconst (v := 0) B dX4_isFull_13 (by decide) ?_
    obtain rfl := x_retP hf
    exact x_zret B hr (by decide) dX4_isFull_14
  · replace hf := x_if h1 hf
    refine x_iconst (v := 1) B dX4_isFull_9 (by decide) ?_
    refine x_goto (tgt := 14) B dX4_isFull_10 (by decide) ?_
    obtain rfl := x_retP hf
    exact x_zret B hr (by decide) dX4_isFull_14
theorem iX4_append_0 : Cond.fieldLink RX4 15 "SignDuty$Reader" "length" "I" ∈ wsX4_append := by decide +kernel
theorem iX4_append_cX4 : ∀ w ∈ u_ws RX4 TX4 6, w ∈ wsX4_append := by decide +kernel
theorem iX4_append_2 : Cond.fieldLink RX4 11 "SignDuty$Reader" "tape" "[I" ∈ wsX4_append := by decide +kernel
set_option maxRecDepth 100000 in
set_option maxHeartbeats 4000000 in
theorem mX4_append {σ : x_S} {a1 : Int32} (hdis : x_dis s_N ad) (hf : fX4_append a1 σ = some (r0, σ0)) : x_NI l yX4_append wsX4_append 1 D vwCl (s_tys cI cQ cC cZ) s_N (s_C cI cQ cC ad) ad (s_St aS) s_NW [.ref (ad 13), .int a1] σ r0 σ0 := by
  refine x_met (cc := cX4_append) (own := RX4) (maxL := 2) (ret := (some .int)) (by decide +kernel) rfl rfl (Nat.le_of_ble_eq_true rfl) hdis (s_StOk aS) s_NwOk (fun p e s m args below meth c B G hr => ?_)
  unfold fX4_append at hf
  refine x_sub (lv' := [(0, .ref (ad 13)), (1, .int a1)]) [0, 1] rfl ?_
  refine x_aload_n B dX4_append_0 rfl 0 rfl ?_
  obtain ⟨r2, e1, hf⟩ := x_ps hf
  refine x_callV (As := []) (st := []) B G (mX4_isFull (l := l) G.1.2.1  e1) (cwV 0 B.2.2.2.2.1 gX4_append_X4_isFull rfl rfl rfl hdX4_isFull (x_rm_ok (by omega) (by decide))) (by decide) s_c13 rfl rfl rfl (Nat.le_of_ble_eq_true rfl) ⟨Nat.zero_le _, Nat.zero_le _⟩ dX4_append_1 ?_
  refine x_if_ne (tgt := 27) B dX4_append_4 (by decide) (fun h3 => ?_) (fun h3 => ?_)
  · replace hf := x_if h3 hf
    refine x_aload_n B dX4_append_27 rfl 0 rfl ?_
    refine x_get (v := .int (σ 13 1)) (kc := 13) (index := 15) B G.1 iX4_append_cX4 rfl (by decide) s_c13 1 (by decide) iX4_append_0 rfl dX4_append_28 ?_
    obtain ⟨rfl, rfl⟩ := x_retI hf
    exact x_iret B hr dX4_append_31
  · replace hf := x_it h3 hf
    refine x_aload_n B dX4_append_7 rfl 0 rfl ?_
    refine x_get (v := .ref (ad 14)) (kc := 13) (index := 11) B G.1 iX4_append_cX4 rfl (by decide) s_c13 0 (by decide) iX4_append_2 rfl dX4_append_8 ?_
    refine x_aload_n B dX4_append_11 rfl 0 rfl ?_
    refine x_get (v := .int (σ 13 1)) (kc := 13) (index := 15) B G.1 iX4_append_cX4 rfl (by decide) s_c13 1 (by decide) iX4_append_0 rfl dX4_append_12 ?_
    refine x_iload_n B dX4_append_15 rfl 1 rfl ?_
    obtain ⟨h4, hf⟩ := x_gs hf
    obtain ⟨σ5, u6, hf⟩ := x_ws hf
    refine x_iast (kc := 14) (t0 := 0) B G.1 (by decide) s_c14 rfl h4 dX4_append_16 ?_
    refine x_nm u6 ?_
    refine x_aload_n B dX4_append_17 rfl 0 rfl ?_
    refine x_dup B dX4_append_18 rfl ?_
    refine x_get (v := .int (σ5 13 1)) (kc := 13) (index := 15) B G.1 iX4_append_cX4 rfl (by decide) s_c13 1 (by decide) iX4_append_0 rfl dX4_append_19 ?_
    refine x_iconst (v := 1) B dX4_append_22 (by decide) ?_
    refine x_iadd B dX4_append_23 ?_
    obtain ⟨σ7, u8, hf⟩ := x_ws hf
    refine x_put (v := ((σ5 13 1) + 1)) (ty := .int) (kc := 13) (index := 15) B G.1 iX4_append_cX4 tyX4 tyX4_ok nmX4 rfl (by decide) s_c13 1 (by decide) iX4_append_0 rfl rfl rfl rfl (Nat.le_of_ble_eq_true rfl) (s_w4_1 _ _) dX4_append_24 ?_
    refine x_nm u8 ?_
    refine x_aload_n B dX4_append_27 rfl 0 rfl ?_
    refine x_get (v := .int (σ7 13 1)) (kc := 13) (index := 15) B G.1 iX4_append_cX4 rfl (by decide) s_c13 1 (by decide) iX4_append_0 rfl dX4_append_28 ?_
    obtain ⟨rfl, rfl⟩ := x_retI hf
    exact x_iret B hr dX4_append_31
theorem iX4_next_0 : Cond.fieldLink RX4 28 "SignDuty$Reader" "at" "I" ∈ wsX4_next := by decide +kernel
theorem iX4_next_cX4 : ∀ w ∈ u_ws RX4 TX4 6, w ∈ wsX4_next := by decide +kernel
theorem iX4_next_2 : Cond.fieldLink RX4 15 "SignDuty$Reader" "length" "I" ∈ wsX4_next := by decide +kernel
theorem iX4_next_3 : Cond.fieldLink RX4 11 "SignDuty$Reader" "tape" "[I" ∈ wsX4_next := by decide +kernel
set_option maxRecDepth 100000 in
set_option maxHeartbeats 4000000 in
theorem mX4_next {σ : x_S} (hdis : x_dis s_N ad) (hf : fX4_next  σ = some r0) : x_NI l yX4_next wsX4_next 0 D vwCl (s_tys cI cQ cC cZ) s_N (s_C cI cQ cC ad) ad (s_St aS) s_NW [.ref (ad 13)] σ r0 σ := by
  refine x_met (cc := cX4_next) (own := RX4) (maxL := 1) (ret := (some .int)) (by decide +kernel) rfl rfl (Nat.le_of_ble_eq_true rfl) hdis (s_StOk aS) s_NwOk (fun p e s m args below meth c B G hr => ?_)
  unfold fX4_next at hf
  refine x_sub (lv' := [(0, .ref (ad 13))]) [0] rfl ?_
  refine x_aload_n B dX4_next_0 rfl 0 rfl ?_
  refine x_get (v := .int (σ 13 5)) (kc := 13) (index := 28) B G.1 iX4_next_cX4 rfl (by decide) s_c13 5 (by decide) iX4_next_0 rfl dX4_next_1 ?_
  refine x_if_lt (tgt := 39) B dX4_next_4 (by decide) (fun h1 => ?_) (fun h1 => ?_)
  · replace hf := x_it h1 hf
    refine x_iconst (v := (-1)) B dX4_next_39 (by decide) ?_
    obtain rfl := x_retP hf
    exact x_iret B hr dX4_next_40
  · replace hf := x_if h1 hf
    refine x_aload_n B dX4_next_7 rfl 0 rfl ?_
    refine x_get (v := .int (σ 13 5)) (kc := 13) (index := 28) B G.1 iX4_next_cX4 rfl (by decide) s_c13 5 (by decide) iX4_next_0 rfl dX4_next_8 ?_
    refine x_aload_n B dX4_next_11 rfl 0 rfl ?_
    refine x_get (v := .int (σ 13 1)) (kc := 13) (index := 15) B G.1 iX4_next_cX4 rfl (by decide) s_c13 1 (by decide) iX4_next_2 rfl dX4_next_12 ?_
    refine x_icmp_ge (tgt := 39) B dX4_next_15 (by decide) (fun h2 => ?_) (fun h2 => ?_)
    · replace hf := x_it h2 hf
      refine x_iconst (v := (-1)) B dX4_next_39 (by decide) ?_
      obtain rfl := x_retP hf
      exact x_iret B hr dX4_next_40
    · replace hf := x_if h2 hf
      refine x_aload_n B dX4_next_18 rfl 0 rfl ?_
      refine x_get (v := .int (σ 13 5)) (kc := 13) (index := 28) B G.1 iX4_next_cX4 rfl (by decide) s_c13 5 (by decide) iX4_next_0 rfl dX4_next_19 ?_
      refine x_bipush (v := 120) B dX4_next_22 (by decide) ?_
      refine x_icmp_ge (tgt := 39) B dX4_next_24 (by decide) (fun h3 => ?_) (fun h3 => ?_)
      · replace hf := x_it h3 hf
        refine x_iconst (v := (-1)) B dX4_next_39 (by decide) ?_
        obtain rfl := x_retP hf
        exact x_iret B hr dX4_next_40
      · replace hf := x_if h3 hf
        refine x_aload_n B dX4_next_27 rfl 0 rfl ?_
        refine x_get (v := .ref (ad 14)) (kc := 13) (index := 11) B G.1 iX4_next_cX4 rfl (by decide) s_c13 0 (by decide) iX4_next_3 rfl dX4_next_28 ?_
        refine x_aload_n B dX4_next_31 rfl 0 rfl ?_
        refine x_get (v := .int (σ 13 5)) (kc := 13) (index := 28) B G.1 iX4_next_cX4 rfl (by decide) s_c13 5 (by decide) iX4_next_0 rfl dX4_next_32 ?_
        obtain ⟨h4, hf⟩ := x_gs hf
        refine x_iald (kc := 14) (t0 := 0) B G.1 (by decide) s_c14 rfl h4 dX4_next_35 ?_
        refine x_goto (tgt := 40) B dX4_next_36 (by decide) ?_
        obtain rfl := x_retP hf
        exact x_iret B hr dX4_next_40
theorem iX4_failAt_0 : Cond.fieldLink RX4 25 "SignDuty$Reader" "fault" "I" ∈ wsX4_failAt := by decide +kernel
theorem iX4_failAt_cX4 : ∀ w ∈ u_ws RX4 TX4 6, w ∈ wsX4_failAt := by decide +kernel
theorem iX4_failAt_2 : Cond.fieldLink RX4 19 "SignDuty$Reader" "lastFault" "I" ∈ wsX4_failAt := by decide +kernel
theorem iX4_failAt_3 : Cond.fieldLink RX4 22 "SignDuty$Reader" "faultPlace" "I" ∈ wsX4_failAt := by decide +kernel
set_option maxRecDepth 100000 in
set_option maxHeartbeats 4000000 in
theorem mX4_failAt {σ : x_S} {a1 : Int32} {a2 : Int32} (hdis : x_dis s_N ad) (hf : fX4_failAt a1 a2 σ = some σ0) : x_NV l yX4_failAt wsX4_failAt 0 D vwCl (s_tys cI cQ cC cZ) s_N (s_C cI cQ cC ad) ad (s_St aS) s_NW [.ref (ad 13), .int a1, .int a2] σ σ0 := by
  refine x_met (cc := cX4_failAt) (own := RX4) (maxL := 3) (ret := none) (by decide +kernel) rfl rfl (Nat.le_of_ble_eq_true rfl) hdis (s_StOk aS) s_NwOk (fun p e s m args below meth c B G hr => ?_)
  unfold fX4_failAt at hf
  refine x_sub (lv' := [(0, .ref (ad 13)), (1, .int a1), (2, .int a2)]) [0, 1, 2] rfl ?_
  refine x_aload_n B dX4_failAt_0 rfl 0 rfl ?_
  refine x_get (v := .int (σ 13 4)) (kc := 13) (index := 25) B G.1 iX4_failAt_cX4 rfl (by decide) s_c13 4 (by decide) iX4_failAt_0 rfl dX4_failAt_1 ?_
  refine x_if_ne (tgt := 22) B dX4_failAt_4 (by decide) (fun h1 => ?_) (fun h1 => ?_)
  · replace hf := x_if h1 hf
    obtain rfl := x_retV hf
    exact x_vret B hr dX4_failAt_22
  · replace hf := x_it h1 hf
    refine x_aload_n B dX4_failAt_7 rfl 0 rfl ?_
    refine x_iload_n B dX4_failAt_8 rfl 2 rfl ?_
    obtain ⟨σ2, u3, hf⟩ := x_ws hf
    refine x_put (v := a2) (ty := .int) (kc := 13) (index := 25) B G.1 iX4_failAt_cX4 tyX4 tyX4_ok nmX4 rfl (by decide) s_c13 4 (by decide) iX4_failAt_0 rfl rfl rfl rfl (Nat.le_of_ble_eq_true rfl) (s_w4_4 _ _) dX4_failAt_9 ?_
    refine x_nm u3 ?_
    refine x_aload_n B dX4_failAt_12 rfl 0 rfl ?_
    refine x_iload_n B dX4_failAt_13 rfl 2 rfl ?_
    obtain ⟨σ4, u5, hf⟩ := x_ws hf
    refine x_put (v := a2) (ty := .int) (kc := 13) (index := 19) B G.1 iX4_failAt_cX4 tyX4 tyX4_ok nmX4 rfl (by decide) s_c13 2 (by decide) iX4_failAt_2 rfl rfl rfl rfl (Nat.le_of_ble_eq_true rfl) (s_w4_2 _ _) dX4_failAt_14 ?_
    refine x_nm u5 ?_
    refine x_aload_n B dX4_failAt_17 rfl 0 rfl ?_
    refine x_iload_n B dX4_failAt_18 rfl 1 rfl ?_
    obtain ⟨σ6, u7, hf⟩ := x_ws hf
    refine x_put (v := a1) (ty := .int) (kc := 13) (index := 22) B G.1 iX4_failAt_cX4 tyX4 tyX4_ok nmX4 rfl (by decide) s_c13 3 (by decide) iX4_failAt_3 rfl rfl rfl rfl (Nat.le_of_ble_eq_true rfl) (s_w4_3 _ _) dX4_failAt_19 ?_
    refine x_nm u7 ?_
    obtain rfl := x_retV hf
    exact x_vret B hr dX4_failAt_22
theorem iX4_fail_0 : Cond.fieldLink RX4 28 "SignDuty$Reader" "at" "I" ∈ wsX4_fail := by decide +kernel
theorem iX4_fail_cX4 : ∀ w ∈ u_ws RX4 TX4 6, w ∈ wsX4_fail := by decide +kernel
set_option maxRecDepth 100000 in
set_option maxHeartbeats 4000000 in
theorem mX4_fail {σ : x_S} {a1 : Int32} (hdis : x_dis s_N ad) (hf : fX4_fail a1 σ = some σ0) : x_NV l yX4_fail wsX4_fail 1 D vwCl (s_tys cI cQ cC cZ) s_N (s_C cI cQ cC ad) ad (s_St aS) s_NW [.ref (ad 13), .int a1] σ σ0 := by
  refine x_met (cc := cX4_fail) (own := RX4) (maxL := 2) (ret := none) (by decide +kernel) rfl rfl (Nat.le_of_ble_eq_true rfl) hdis (s_StOk aS) s_NwOk (fun p e s m args below meth c B G hr => ?_)
  unfold fX4_fail at hf
  refine x_sub (lv' := [(0, .ref (ad 13)), (1, .int a1)]) [0, 1] rfl ?_
  refine x_aload_n B dX4_fail_0 rfl 0 rfl ?_
  refine x_aload_n B dX4_fail_1 rfl 0 rfl ?_
  refine x_get (v := .int (σ 13 5)) (kc := 13) (index := 28) B G.1 iX4_fail_cX4 rfl (by decide) s_c13 5 (by decide) iX4_fail_0 rfl dX4_fail_2 ?_
  refine x_iload_n B dX4_fail_5 rfl 1 rfl ?_
  obtain ⟨σ2, e1, hf⟩ := x_vs hf
  refine x_callVv (As := [.int (σ 13 5), .int a1]) (st := []) B G (mX4_failAt (l := l) G.1.2.1  e1) (cwV 2 B.2.2.2.2.1 gX4_fail_X4_failAt rfl rfl rfl hdX4_failAt (x_rm_ok (by omega) (by decide))) (by decide) s_c13 rfl rfl rfl (Nat.le_of_ble_eq_true rfl) ⟨Nat.zero_le _, Nat.zero_le _⟩ dX4_fail_6 ?_
  obtain rfl := x_retV hf
  exact x_vret B hr dX4_fail_9
theorem iX4_readSign_0 : Cond.fieldLink RX4 28 "SignDuty$Reader" "at" "I" ∈ wsX4_readSign := by decide +kernel
theorem iX4_readSign_cX4 : ∀ w ∈ u_ws RX4 TX4 6, w ∈ wsX4_readSign := by decide +kernel
set_option maxRecDepth 100000 in
set_option maxHeartbeats 4000000 in
theorem kX4_readSign_13 {σ : x_S} (B : x_B p s m args meth c cX4_readSign 2 wsX4_readSign RX4) (G : x_H s D vwCl (s_tys cI cQ cC cZ) s_N ad (x_A s_N ad) (s_St aS) s_NW) (hr : meth.sig.returnType = none) (hf : bX4_readSign_13   σ = some σ0) : x_J p l e (x_rm 2) s m args below meth c 0 0 (MQ below (x_Qv D vwCl s_N (s_C cI cQ cC ad) ad σ0) args s 0 0 (x_A s_N ad)) (x_A s_N ad) 2 (x_I D vwCl s_N (s_C cI cQ cC ad) ad σ) [(0, .ref (ad 13))] [] 13 := by
  unfold bX4_readSign_13 at hf
  refine x_aload_n B dX4_readSign_13 rfl 0 rfl ?_
  refine x_dup B dX4_readSign_14 rfl ?_
  refine x_get (v := .int (σ 13 5)) (kc := 13) (index := 28) B G.1 iX4_readSign_cX4 rfl (by decide) s_c13 5 (by decide) iX4_readSign_0 rfl dX4_readSign_15 ?_
  refine x_iconst (v := 1) B dX4_readSign_18 (by decide) ?_
  refine x_iadd B dX4_readSign_19 ?_
  obtain ⟨σ1, u2, hf⟩ := x_ws hf
  refine x_put (v := ((σ 13 5) + 1)) (ty := .int) (kc := 13) (index := 28) B G.1 iX4_readSign_cX4 tyX4 tyX4_ok nmX4 rfl (by decide) s_c13 5 (by decide) iX4_readSign_0 rfl rfl rfl rfl (Nat.le_of_ble_eq_true rfl) (s_w4_5 _ _) dX4_readSign_20 ?_
  refine x_nm u2 ?_
  obtain rfl := x_retV hf
  exact x_vret B hr dX4_readSign_23
set_option maxRecDepth 100000 in
set_option maxHeartbeats 4000000 in
theorem mX4_readSign {σ : x_S} {a1 : Int32} (hdis : x_dis s_N ad) (hf : fX4_readSign a1 σ = some σ0) : x_NV l yX4_readSign wsX4_readSign 2 D vwCl (s_tys cI cQ cC cZ) s_N (s_C cI cQ cC ad) ad (s_St aS) s_NW [.ref (ad 13), .int a1] σ σ0 := by
  refine x_met (cc := cX4_readSign) (own := RX4) (maxL := 2) (ret := none) (by decide +kernel) rfl rfl (Nat.le_of_ble_eq_true rfl) hdis (s_StOk aS) s_NwOk (fun p e s m args below meth c B G hr => ?_)
  unfold fX4_readSign at hf
  refine x_sub (lv' := [(0, .ref (ad 13)), (1, .int a1)]) [0, 1] rfl ?_
  refine x_aload_n B dX4_readSign_0 rfl 0 rfl ?_
  obtain ⟨r2, e1, hf⟩ := x_ps hf
  refine x_callV (As := []) (st := []) B G (mX4_next (l := l) G.1.2.1  e1) (cwV 0 B.2.2.2.2.1 gX4_readSign_X4_next rfl rfl rfl hdX4_next (x_rm_ok (by omega) (by decide))) (by decide) s_c13 rfl rfl rfl (Nat.le_of_ble_eq_true rfl) ⟨Nat.zero_le _, Nat.zero_le _⟩ dX4_readSign_1 ?_
  refine x_iload_n B dX4_readSign_4 rfl 1 rfl ?_
  refine x_icmp_eq (tgt := 13) B dX4_readSign_5 (by decide) (fun h3 => ?_) (fun h3 => ?_)
  · replace hf := x_it h3 hf
    refine x_sub [0] rfl ?_
    exact kX4_readSign_13 B G hr hf
  · replace hf := x_if h3 hf
    refine x_aload_n B dX4_readSign_8 rfl 0 rfl ?_
    refine x_iconst (v := 1) B dX4_readSign_9 (by decide) ?_
    obtain ⟨σ5, e4, hf⟩ := x_vs hf
    refine x_callVv (As := [.int 1]) (st := []) B G (mX4_fail (l := l) G.1.2.1  e4) (cwV 1 B.2.2.2.2.1 gX4_readSign_X4_fail rfl rfl rfl hdX4_fail (x_rm_ok (by omega) (by decide))) (by decide) s_c13 rfl rfl rfl (Nat.le_of_ble_eq_true rfl) ⟨Nat.zero_le _, Nat.zero_le _⟩ dX4_readSign_10 ?_
    refine x_sub [0] rfl ?_
    exact kX4_readSign_13 B G hr hf
theorem iX4_readNumber_0 : Cond.fieldLink RX4 28 "SignDuty$Reader" "at" "I" ∈ wsX4_readNumber := by decide +kernel
theorem iX4_readNumber_cX4 : ∀ w ∈ u_ws RX4 TX4 6, w ∈ wsX4_readNumber := by decide +kernel
theorem iX4_readNumber_2 : Cond.initialized RX7 ∈ wsX4_readNumber := by decide +kernel
theorem iX4_readNumber_3 : Cond.static yX7_isWithin ∈ wsX4_readNumber := by decide +kernel
set_option maxRecDepth 100000 in
set_option maxHeartbeats 4000000 in
theorem kX4_readNumber_88 {σ : x_S} {x4 : Int32} {x5 : Int32} (B : x_B p s m args meth c cX4_readNumber 7 wsX4_readNumber RX4) (G : x_H s D vwCl (s_tys cI cQ cC cZ) s_N ad (x_A s_N ad) (s_St aS) s_NW) (hr : meth.sig.returnType = (some .int)) (hf : bX4_readNumber_88  x4 x5 σ = some (r0, σ0)) : x_J p l e (x_rm 1) s m args below meth c 0 0 (MQ below (x_Qi D vwCl s_N (s_C cI cQ cC ad) ad r0 σ0) args s 0 0 (x_A s_N ad)) (x_A s_N ad) 7 (x_I D vwCl s_N (s_C cI cQ cC ad) ad σ) [(0, .ref (ad 13)), (4, .int x4), (5, .int x5)] [] 88 := by
  unfold bX4_readNumber_88 at hf
  refine x_aload_n B dX4_readNumber_88 rfl 0 rfl ?_
  refine x_iload B dX4_readNumber_89 2 rfl ?_
  refine x_iconst (v := 1) B dX4_readNumber_91 (by decide) ?_
  obtain ⟨σ2, e1, hf⟩ := x_vs hf
  refine x_callVv (As := [.int x5, .int 1]) (st := []) B G (mX4_failAt (l := l) G.1.2.1  e1) (cwV 2 B.2.2.2.2.1 gX4_readNumber_X4_failAt rfl rfl rfl hdX4_failAt (x_rm_ok (by omega) (by decide))) (by decide) s_c13 rfl rfl rfl (Nat.le_of_ble_eq_true rfl) ⟨Nat.zero_le _, Nat.zero_le _⟩ dX4_readNumber_92 ?_
  refine x_goto (tgt := 115) B dX4_readNumber_95 (by decide) ?_
  refine x_iload B dX4_readNumber_115 1 rfl ?_
  obtain ⟨rfl, rfl⟩ := x_retI hf
  exact x_iret B hr dX4_readNumber_117
set_option maxRecDepth 100000 in
set_option maxHeartbeats 4000000 in
theorem kX4_readNumber_79 {σ : x_S} {x1 : Int32} {x2 : Int32} {x3 : Int32} {x4 : Int32} {x5 : Int32} (B : x_B p s m args meth c cX4_readNumber 7 wsX4_readNumber RX4) (G : x_H s D vwCl (s_tys cI cQ cC cZ) s_N ad (x_A s_N ad) (s_St aS) s_NW) (hr : meth.sig.returnType = (some .int)) (hf : bX4_readNumber_79  x1 x2 x3 x4 x5 σ = some (r0, σ0)) : x_J p l e (x_rm 1) s m args below meth c 0 0 (MQ below (x_Qi D vwCl s_N (s_C cI cQ cC ad) ad r0 σ0) args s 0 0 (x_A s_N ad)) (x_A s_N ad) 7 (x_I D vwCl s_N (s_C cI cQ cC ad) ad σ) [(0, .ref (ad 13)), (1, .int x1), (2, .int x2), (3, .int x3), (4, .int x4), (5, .int x5)] [] 79 := by
  unfold bX4_readNumber_79 at hf
  refine x_iload_n B dX4_readNumber_79 rfl 3 rfl ?_
  refine x_if_eq (tgt := 88) B dX4_readNumber_80 (by decide) (fun h1 => ?_) (fun h1 => ?_)
  · replace hf := x_it h1 hf
    refine x_sub [0, 4, 5] rfl ?_
    exact kX4_readNumber_88 B G hr hf
  · replace hf := x_if h1 hf
    refine x_iload_n B dX4_readNumber_83 rfl 3 rfl ?_
    refine x_iconst (v := 2) B dX4_readNumber_84 (by decide) ?_
    refine x_icmp_le (tgt := 98) B dX4_readNumber_85 (by decide) (fun h2 => ?_) (fun h2 => ?_)
    · replace hf := x_it h2 hf
      refine x_iload B dX4_readNumber_98 4 rfl ?_
      refine x_iload_n B dX4_readNumber_100 rfl 1 rfl ?_
      refine x_iload_n B dX4_readNumber_101 rfl 2 rfl ?_
      obtain ⟨r4, e3, hf⟩ := x_ps hf
      refine x_callSN (As := [.int x4, .int x1, .int x2]) (st := []) B G (mX7_isWithin (l := l) G.1.2.1  e3) ⟨va_cnB 3 B.2.2.2.2.1 gX4_readNumber_X7_isWithin_n98 rfl rfl rfl G.2.2 (B.2.2.2.2.1 _ iX4_readNumber_2) hdX7_isWithin (x_rm_ok (by omega) (by decide)), B.2.2.2.2.1 _ iX4_readNumber_3, trivial⟩ rfl rfl (Nat.le_of_ble_eq_true rfl) ⟨Nat.zero_le _, Nat.zero_le _⟩ dX4_readNumber_102 ?_
      refine x_if_ne (tgt := 115) B dX4_readNumber_105 (by decide) (fun h5 => ?_) (fun h5 => ?_)
      · replace hf := x_if h5 hf
        refine x_iload B dX4_readNumber_115 4 rfl ?_
        obtain ⟨rfl, rfl⟩ := x_retI hf
        exact x_iret B hr dX4_readNumber_117
      · replace hf := x_it h5 hf
        refine x_aload_n B dX4_readNumber_108 rfl 0 rfl ?_
        refine x_iload B dX4_readNumber_109 5 rfl ?_
        refine x_iconst (v := 2) B dX4_readNumber_111 (by decide) ?_
        obtain ⟨σ7, e6, hf⟩ := x_vs hf
        refine x_callVv (As := [.int x5, .int 2]) (st := []) B G (mX4_failAt (l := l) G.1.2.1  e6) (cwV 2 B.2.2.2.2.1 gX4_readNumber_X4_failAt rfl rfl rfl hdX4_failAt (x_rm_ok (by omega) (by decide))) (by decide) s_c13 rfl rfl rfl (Nat.le_of_ble_eq_true rfl) ⟨Nat.zero_le _, Nat.zero_le _⟩ dX4_readNumber_112 ?_
        refine x_iload B dX4_readNumber_115 4 rfl ?_
        obtain ⟨rfl, rfl⟩ := x_retI hf
        exact x_iret B hr dX4_readNumber_117
    · replace hf := x_if h2 hf
      refine x_sub [0, 4, 5] rfl ?_
      exact kX4_readNumber_88 B G hr hf
set_option maxRecDepth 100000 in
set_option maxHeartbeats 4000000 in
theorem kX4_readNumber_58 {σ : x_S} {K14 : Int32 → Int32 → Int32 → x_S → Option (Int32 × x_S)} {x1 : Int32} {x2 : Int32} {x3 : Int32} {x5 : Int32} {x6 : Int32} {y0 : Int32} (B : x_B p s m args meth c cX4_readNumber 7 wsX4_readNumber RX4) (G : x_H s D vwCl (s_tys cI cQ cC cZ) s_N ad (x_A s_N ad) (s_St aS) s_NW) (hr : meth.sig.returnType = (some .int)) (hK14 : ∀ (x3 : Int32) (x4 : Int32) (x6 : Int32) (σ : x_S), K14 x3 x4 x6 σ = some (r0, σ0) → x_J p l e (x_rm 1) s m args below meth c 0 0 (MQ below (x_Qi D vwCl s_N (s_C cI cQ cC ad) ad r0 σ0) args s 0 0 (x_A s_N ad)) (x_A s_N ad) 7 (x_I D vwCl s_N (s_C cI cQ cC ad) ad σ) [(0, .ref (ad 13)), (1, .int x1), (2, .int x2), (3, .int x3), (4, .int x4), (5, .int x5), (6, .int x6)] [] 14) (hf : bX4_readNumber_58 K14 x1 x2 x3 x5 x6 y0 σ = some (r0, σ0)) : x_J p l e (x_rm 1) s m args below meth c 0 0 (MQ below (x_Qi D vwCl s_N (s_C cI cQ cC ad) ad r0 σ0) args s 0 0 (x_A s_N ad)) (x_A s_N ad) 7 (x_I D vwCl s_N (s_C cI cQ cC ad) ad σ) [(0, .ref (ad 13)), (1, .int x1), (2, .int x2), (3, .int x3), (5, .int x5), (6, .int x6)] [.int y0] 58 := by
  unfold bX4_readNumber_58 at hf
  refine x_istore (lv' := [(4, .int y0), (0, .ref (ad 13)), (1, .int x1), (2, .int x2), (3, .int x3), (5, .int x5), (6, .int x6)]) B dX4_readNumber_58 (by decide) rfl ?_
  refine x_iinc (v := (x3 + 1)) (lv' := [(3, .int (x3 + 1)), (4, .int y0), (0, .ref (ad 13)), (1, .int x1), (2, .int x2), (5, .int x5), (6, .int x6)]) B dX4_readNumber_60 4 rfl rfl (by decide) rfl ?_
  refine x_aload_n B dX4_readNumber_63 rfl 2 rfl ?_
  refine x_dup B dX4_readNumber_64 rfl ?_
  refine x_get (v := .int (σ 13 5)) (kc := 13) (index := 28) B G.1 iX4_readNumber_cX4 rfl (by decide) s_c13 5 (by decide) iX4_readNumber_0 rfl dX4_readNumber_65 ?_
  refine x_iconst (v := 1) B dX4_readNumber_68 (by decide) ?_
  refine x_iadd B dX4_readNumber_69 ?_
  obtain ⟨σ1, u2, hf⟩ := x_ws hf
  refine x_put (v := ((σ 13 5) + 1)) (ty := .int) (kc := 13) (index := 28) B G.1 iX4_readNumber_cX4 tyX4 tyX4_ok nmX4 rfl (by decide) s_c13 5 (by decide) iX4_readNumber_0 rfl rfl rfl rfl (Nat.le_of_ble_eq_true rfl) (s_w4_5 _ _) dX4_readNumber_70 ?_
  refine x_nm u2 ?_
  refine x_iinc (v := (x6 + 1)) (lv' := [(6, .int (x6 + 1)), (3, .int (x3 + 1)), (4, .int y0), (0, .ref (ad 13)), (1, .int x1), (2, .int x2), (5, .int x5)]) B dX4_readNumber_73 6 rfl rfl (by decide) rfl ?_
  refine x_goto (tgt := 14) B dX4_readNumber_76 (by decide) ?_
  refine x_sub [3, 4, 5, 1, 2, 6, 0] rfl ?_
  exact hK14 _ _ _ _ hf
set_option maxRecDepth 100000 in
set_option maxHeartbeats 4000000 in
theorem qX4_readNumber_14 {σ : x_S} {x1 : Int32} {x2 : Int32} {x5 : Int32} {x3 : Int32} {x4 : Int32} {x6 : Int32} {K14 : Int32 → Int32 → Int32 → x_S → Option (Int32 × x_S)} (B : x_B p s m args meth c cX4_readNumber 7 wsX4_readNumber RX4) (G : x_H s D vwCl (s_tys cI cQ cC cZ) s_N ad (x_A s_N ad) (s_St aS) s_NW) (hr : meth.sig.returnType = (some .int)) (hK14 : ∀ (x3 : Int32) (x4 : Int32) (x6 : Int32) (σ : x_S), K14 x3 x4 x6 σ = some (r0, σ0) → x_J p l e (x_rm 1) s m args below meth c 0 0 (MQ below (x_Qi D vwCl s_N (s_C cI cQ cC ad) ad r0 σ0) args s 0 0 (x_A s_N ad)) (x_A s_N ad) 7 (x_I D vwCl s_N (s_C cI cQ cC ad) ad σ) [(0, .ref (ad 13)), (1, .int x1), (2, .int x2), (3, .int x3), (4, .int x4), (5, .int x5), (6, .int x6)] [] 14) (hf : gX4_readNumber_14  x1 x2 x5 K14 x3 x4 x6 σ = some (r0, σ0)) : x_J p l e (x_rm 1) s m args below meth c 0 0 (MQ below (x_Qi D vwCl s_N (s_C cI cQ cC ad) ad r0 σ0) args s 0 0 (x_A s_N ad)) (x_A s_N ad) 7 (x_I D vwCl s_N (s_C cI cQ cC ad) ad σ) [(0, .ref (ad 13)), (1, .int x1), (2, .int x2), (3, .int x3), (4, .int x4), (5, .int x5), (6, .int x6)] [] 14 := by
  unfold gX4_readNumber_14 at hf
  refine x_iload B dX4_readNumber_14 6 rfl ?_
  refine x_bipush (v := 120) B dX4_readNumber_16 (by decide) ?_
  refine x_icmp_ge (tgt := 79) B dX4_readNumber_18 (by decide) (fun h1 => ?_) (fun h1 => ?_)
  · replace hf := x_it h1 hf
    refine x_sub [0, 1, 2, 3, 4, 5] rfl ?_
    exact kX4_readNumber_79 B G hr hf
  · replace hf := x_if h1 hf
    refine x_aload_n B dX4_readNumber_21 rfl 0 rfl ?_
    obtain ⟨r3, e2, hf⟩ := x_ps hf
    refine x_callV (As := []) (st := []) B G (mX4_next (l := l) G.1.2.1  e2) (cwV 0 B.2.2.2.2.1 gX4_readNumber_X4_next rfl rfl rfl hdX4_next (x_rm_ok (by omega) (by decide))) (by decide) s_c13 rfl rfl rfl (Nat.le_of_ble_eq_true rfl) ⟨Nat.zero_le _, Nat.zero_le _⟩ dX4_readNumber_22 ?_
    refine x_bipush (v := 48) B dX4_readNumber_25 (by decide) ?_
    refine x_bipush (v := 57) B dX4_readNumber_27 (by decide) ?_
    obtain ⟨r5, e4, hf⟩ := x_ps hf
    refine x_callSN (As := [.int r3, .int 48, .int 57]) (st := []) B G (mX7_isWithin (l := l) G.1.2.1  e4) ⟨va_cnB 3 B.2.2.2.2.1 gX4_readNumber_X7_isWithin_n98 rfl rfl rfl G.2.2 (B.2.2.2.2.1 _ iX4_readNumber_2) hdX7_isWithin (x_rm_ok (by omega) (by decide)), B.2.2.2.2.1 _ iX4_readNumber_3, trivial⟩ rfl rfl (Nat.le_of_ble_eq_true rfl) ⟨Nat.zero_le _, Nat.zero_le _⟩ dX4_readNumber_29 ?_
    refine x_if_eq (tgt := 79) B dX4_readNumber_32 (by decide) (fun h6 => ?_) (fun h6 => ?_)
    · replace hf := x_it h6 hf
      refine x_sub [0, 1, 2, 3, 4, 5] rfl ?_
      exact kX4_readNumber_79 B G hr hf
    · replace hf := x_if h6 hf
      refine x_iload_n B dX4_readNumber_35 rfl 3 rfl ?_
      refine x_iconst (v := 2) B dX4_readNumber_36 (by decide) ?_
      refine x_icmp_ge (tgt := 56) B dX4_readNumber_37 (by decide) (fun h7 => ?_) (fun h7 => ?_)
      · replace hf := x_it h7 hf
        refine x_iload B dX4_readNumber_56 4 rfl ?_
        refine x_sub [0, 1, 2, 3, 5, 6] rfl ?_
        exact kX4_readNumber_58 B G hr hK14 hf
      · replace hf := x_if h7 hf
        refine x_iload B dX4_readNumber_40 4 rfl ?_
        refine x_bipush (v := 10) B dX4_readNumber_42 (by decide) ?_
        refine x_imul B dX4_readNumber_44 ?_
        refine x_aload_n B dX4_readNumber_45 rfl 0 rfl ?_
        obtain ⟨r9, e8, hf⟩ := x_ps hf
        refine x_callV (As := []) (st := [.int (x4 * 10)]) B G (mX4_next (l := l) G.1.2.1  e8) (cwV 0 B.2.2.2.2.1 gX4_readNumber_X4_next rfl rfl rfl hdX4_next (x_rm_ok (by omega) (by decide))) (by decide) s_c13 rfl rfl rfl (Nat.le_of_ble_eq_true rfl) ⟨Nat.zero_le _, Nat.zero_le _⟩ dX4_readNumber_46 ?_
        refine x_iadd B dX4_readNumber_49 ?_
        refine x_bipush (v := 48) B dX4_readNumber_50 (by decide) ?_
        refine x_isub B dX4_readNumber_52 ?_
        refine x_goto (tgt := 58) B dX4_readNumber_53 (by decide) ?_
        refine x_sub [0, 1, 2, 3, 5, 6] rfl ?_
        exact kX4_readNumber_58 B G hr hK14 hf
set_option maxRecDepth 100000 in
set_option maxHeartbeats 4000000 in
theorem kX4_readNumber_14 {σ : x_S} {x1 : Int32} {x2 : Int32} {x5 : Int32} {x3 : Int32} {x4 : Int32} {x6 : Int32} (B : x_B p s m args meth c cX4_readNumber 7 wsX4_readNumber RX4) (G : x_H s D vwCl (s_tys cI cQ cC cZ) s_N ad (x_A s_N ad) (s_St aS) s_NW) (hr : meth.sig.returnType = (some .int)) (hf : bX4_readNumber_14  x1 x2 x5 x3 x4 x6 σ = some (r0, σ0)) : x_J p l e (x_rm 1) s m args below meth c 0 0 (MQ below (x_Qi D vwCl s_N (s_C cI cQ cC ad) ad r0 σ0) args s 0 0 (x_A s_N ad)) (x_A s_N ad) 7 (x_I D vwCl s_N (s_C cI cQ cC ad) ad σ) [(0, .ref (ad 13)), (1, .int x1), (2, .int x2), (3, .int x3), (4, .int x4), (5, .int x5), (6, .int x6)] [] 14 := by
  have key : ∀ (n : Nat) (x3 : Int32) (x4 : Int32) (x6 : Int32) (σ : x_S), x_fx (α := Int32 → Int32 → Int32 → x_S → Option (Int32 × x_S)) (fun _ _ _ _ => none) (fun K => fun x3 x4 x6 σ => gX4_readNumber_14  x1 x2 x5 K x3 x4 x6 σ) n x3 x4 x6 σ = some (r0, σ0) → x_J p l e (x_rm 1) s m args below meth c 0 0 (MQ below (x_Qi D vwCl s_N (s_C cI cQ cC ad) ad r0 σ0) args s 0 0 (x_A s_N ad)) (x_A s_N ad) 7 (x_I D vwCl s_N (s_C cI cQ cC ad) ad σ) [(0, .ref (ad 13)), (1, .int x1), (2, .int x2), (3, .int x3), (4, .int x4), (5, .int x5), (6, .int x6)] [] 14 := by
    intro n
    induction n with
    | zero => intro x3 x4 x6 σ h; cases h
    | succ n ih => intro x3 x4 x6 σ h; exact qX4_readNumber_14 B G hr  ih  h
  exact key x_F x3 x4 x6 σ hf
set_option maxRecDepth 100000 in
set_option maxHeartbeats 4000000 in
theorem mX4_readNumber {σ : x_S} {a1 : Int32} {a2 : Int32} (hdis : x_dis s_N ad) (hf : fX4_readNumber a1 a2 σ = some (r0, σ0)) : x_NI l yX4_readNumber wsX4_readNumber 1 D vwCl (s_tys cI cQ cC cZ) s_N (s_C cI cQ cC ad) ad (s_St aS) s_NW [.ref (ad 13), .int a1, .int a2] σ r0 σ0 := by
  refine x_met (cc := cX4_readNumber) (own := RX4) (maxL := 7) (ret := (some .int)) (by decide +kernel) rfl rfl (Nat.le_of_ble_eq_true rfl) hdis (s_StOk aS) s_NwOk (fun p e s m args below meth c B G hr => ?_)
  unfold fX4_readNumber at hf
  refine x_sub (lv' := [(0, .ref (ad 13)), (1, .int a1), (2, .int a2)]) [0, 1, 2] rfl ?_
  refine x_iconst (v := 0) B dX4_readNumber_0 (by decide) ?_
  refine x_istore_n (lv' := [(3, .int 0), (0, .ref (ad 13)), (1, .int a1), (2, .int a2)]) B dX4_readNumber_1 rfl (by decide) rfl ?_
  refine x_iconst (v := 0) B dX4_readNumber_2 (by decide) ?_
  refine x_istore (lv' := [(4, .int 0), (3, .int 0), (0, .ref (ad 13)), (1, .int a1), (2, .int a2)]) B dX4_readNumber_3 (by decide) rfl ?_
  refine x_aload_n B dX4_readNumber_5 rfl 2 rfl ?_
  refine x_get (v := .int (σ 13 5)) (kc := 13) (index := 28) B G.1 iX4_readNumber_cX4 rfl (by decide) s_c13 5 (by decide) iX4_readNumber_0 rfl dX4_readNumber_6 ?_
  refine x_istore (lv' := [(5, .int (σ 13 5)), (4, .int 0), (3, .int 0), (0, .ref (ad 13)), (1, .int a1), (2, .int a2)]) B dX4_readNumber_9 (by decide) rfl ?_
  refine x_iconst (v := 0) B dX4_readNumber_11 (by decide) ?_
  refine x_istore (lv' := [(6, .int 0), (5, .int (σ 13 5)), (4, .int 0), (3, .int 0), (0, .ref (ad 13)), (1, .int a1), (2, .int a2)]) B dX4_readNumber_12 (by decide) rfl ?_
  refine x_sub [4, 5, 6, 3, 2, 1, 0] rfl ?_
  exact kX4_readNumber_14 B G hr hf
set_option maxRecDepth 100000 in
set_option maxHeartbeats 4000000 in
theorem mX4_readLaw {σ : x_S} {c1 : Nat} (hdis : x_dis s_N ad) (hc1 : s_iC c1) (hf : fX4_readLaw c1 σ = some σ0) : x_NV l yX4_readLaw wsX4_readLaw 3 D vwCl (s_tys cI cQ cC cZ) s_N (s_C cI cQ cC ad) ad (s_St aS) s_NW [.ref (ad 13), .ref (ad c1)] σ σ0 := by
  refine x_met (cc := cX4_readLaw) (own := RX4) (maxL := 2) (ret := none) (by decide +kernel) rfl rfl (Nat.le_of_ble_eq_true rfl) hdis (s_StOk aS) s_NwOk (fun p e s m args below meth c B G hr => ?_)
  unfold fX4_readLaw at hf
  refine x_sub (lv' := [(0, .ref (ad 13)), (1, .ref (ad c1))]) [0, 1] rfl ?_
  refine x_aload_n B dX4_readLaw_0 rfl 0 rfl ?_
  refine x_bipush (v := 100) B dX4_readLaw_1 (by decide) ?_
  obtain ⟨σ2, e1, hf⟩ := x_vs hf
  refine x_callVv (As := [.int 100]) (st := []) B G (mX4_readSign (l := l) G.1.2.1  e1) (cwV 1 B.2.2.2.2.1 gX4_readLaw_X4_readSign rfl rfl rfl hdX4_readSign (x_rm_ok (by omega) (by decide))) (by decide) s_c13 rfl rfl rfl (Nat.le_of_ble_eq_true rfl) ⟨Nat.zero_le _, Nat.zero_le _⟩ dX4_readLaw_3 ?_
  refine x_aload_n B dX4_readLaw_6 rfl 1 rfl ?_
  refine x_aload_n B dX4_readLaw_7 rfl 0 rfl ?_
  refine x_iconst (v := 1) B dX4_readLaw_8 (by decide) ?_
  refine x_bipush (v := 9) B dX4_readLaw_9 (by decide) ?_
  obtain ⟨r4, σ5, e3, hf⟩ := x_bs hf
  refine x_callV (As := [.int 1, .int 9]) (st := [.ref (ad c1)]) B G (mX4_readNumber (l := l) G.1.2.1  e3) (cwV 2 B.2.2.2.2.1 gX4_readLaw_X4_readNumber rfl rfl rfl hdX4_readNumber (x_rm_ok (by omega) (by decide))) (by decide) s_c13 rfl rfl rfl (Nat.le_of_ble_eq_true rfl) ⟨Nat.zero_le _, Nat.zero_le _⟩ dX4_readLaw_11 ?_
  obtain ⟨σ7, e6, hf⟩ := x_vs hf
  refine x_callVv (As := [.int r4]) (st := []) B G (mX2_begin (l := l) G.1.2.1 hc1 e6) (cwV 1 B.2.2.2.2.1 gX4_readLaw_X2_begin rfl rfl rfl hdX2_begin (x_rm_ok (by omega) (by decide))) (s_kC hc1) (s_cC hc1) rfl rfl rfl (Nat.le_of_ble_eq_true rfl) ⟨Nat.zero_le _, Nat.zero_le _⟩ dX4_readLaw_14 ?_
  refine x_aload_n B dX4_readLaw_17 rfl 0 rfl ?_
  refine x_bipush (v := 59) B dX4_readLaw_18 (by decide) ?_
  obtain ⟨σ9, e8, hf⟩ := x_vs hf
  refine x_callVv (As := [.int 59]) (st := []) B G (mX4_readSign (l := l) G.1.2.1  e8) (cwV 1 B.2.2.2.2.1 gX4_readLaw_X4_readSign rfl rfl rfl hdX4_readSign (x_rm_ok (by omega) (by decide))) (by decide) s_c13 rfl rfl rfl (Nat.le_of_ble_eq_true rfl) ⟨Nat.zero_le _, Nat.zero_le _⟩ dX4_readLaw_20 ?_
  obtain rfl := x_retV hf
  exact x_vret B hr dX4_readLaw_23
theorem iX4_readStreet_0 : Cond.fieldLink RX4 71 "SignDuty$City" "streets" "I" ∈ wsX4_readStreet := by decide +kernel
theorem iX4_readStreet_cX2 : ∀ w ∈ u_ws RX2 TX2 13, w ∈ wsX4_readStreet := by decide +kernel
theorem iX4_readStreet_2 : Cond.fieldLink RX4 74 "SignDuty$City" "dim" "[I" ∈ wsX4_readStreet := by decide +kernel
theorem iX4_readStreet_3 : Cond.fieldLink RX4 77 "SignDuty$City" "strict" "[I" ∈ wsX4_readStreet := by decide +kernel
set_option maxRecDepth 100000 in
set_option maxHeartbeats 4000000 in
theorem mX4_readStreet {σ : x_S} {c1 : Nat} (hdis : x_dis s_N ad) (hc1 : s_iC c1) (hf : fX4_readStreet c1 σ = some σ0) : x_NV l yX4_readStreet wsX4_readStreet 3 D vwCl (s_tys cI cQ cC cZ) s_N (s_C cI cQ cC ad) ad (s_St aS) s_NW [.ref (ad 13), .ref (ad c1)] σ σ0 := by
  refine x_met (cc := cX4_readStreet) (own := RX4) (maxL := 3) (ret := none) (by decide +kernel) rfl rfl (Nat.le_of_ble_eq_true rfl) hdis (s_StOk aS) s_NwOk (fun p e s m args below meth c B G hr => ?_)
  unfold fX4_readStreet at hf
  refine x_sub (lv' := [(0, .ref (ad 13)), (1, .ref (ad c1))]) [0, 1] rfl ?_
  refine x_aload_n B dX4_readStreet_0 rfl 1 rfl ?_
  refine x_get (v := .int (σ c1 3)) (kc := c1) (index := 71) B G.1 iX4_readStreet_cX2 rfl (s_kC hc1) (s_cC hc1) 3 (by decide) iX4_readStreet_0 rfl dX4_readStreet_1 ?_
  refine x_bipush (v := 7) B dX4_readStreet_4 (by decide) ?_
  refine x_icmp_lt (tgt := 15) B dX4_readStreet_6 (by decide) (fun h1 => ?_) (fun h1 => ?_)
  · replace hf := x_it h1 hf
    refine x_aload_n B dX4_readStreet_15 rfl 1 rfl ?_
    refine x_get (v := .int (σ c1 3)) (kc := c1) (index := 71) B G.1 iX4_readStreet_cX2 rfl (s_kC hc1) (s_cC hc1) 3 (by decide) iX4_readStreet_0 rfl dX4_readStreet_16 ?_
    refine x_istore_n (lv' := [(2, .int (σ c1 3)), (0, .ref (ad 13)), (1, .ref (ad c1))]) B dX4_readStreet_19 rfl (by decide) rfl ?_
    refine x_aload_n B dX4_readStreet_20 rfl 1 rfl ?_
    refine x_bipush (v := 114) B dX4_readStreet_21 (by decide) ?_
    obtain ⟨σ3, e2, hf⟩ := x_vs hf
    refine x_callVv (As := [.int 114]) (st := []) B G (mX4_readSign (l := l) G.1.2.1  e2) (cwV 1 B.2.2.2.2.1 gX4_readStreet_X4_readSign rfl rfl rfl hdX4_readSign (x_rm_ok (by omega) (by decide))) (by decide) s_c13 rfl rfl rfl (Nat.le_of_ble_eq_true rfl) ⟨Nat.zero_le _, Nat.zero_le _⟩ dX4_readStreet_23 ?_
    refine x_aload_n B dX4_readStreet_26 rfl 2 rfl ?_
    refine x_get (v := .ref (ad (c1 + 1))) (kc := c1) (index := 74) B G.1 iX4_readStreet_cX2 rfl (s_kC hc1) (s_cC hc1) 6 (by decide) iX4_readStreet_2 rfl dX4_readStreet_27 ?_
    refine x_iload_n B dX4_readStreet_30 rfl 0 rfl ?_
    refine x_aload_n B dX4_readStreet_31 rfl 1 rfl ?_
    refine x_iconst (v := 0) B dX4_readStreet_32 (by decide) ?_
    refine x_bipush (v := 30) B dX4_readStreet_33 (by decide) ?_
    obtain ⟨r5, σ6, e4, hf⟩ := x_bs hf
    refine x_callV (As := [.int 0, .int 30]) (st := [.int (σ c1 3), .ref (ad (c1 + 1))]) B G (mX4_readNumber (l := l) G.1.2.1  e4) (cwV 2 B.2.2.2.2.1 gX4_readStreet_X4_readNumber rfl rfl rfl hdX4_readNumber (x_rm_ok (by omega) (by decide))) (by decide) s_c13 rfl rfl rfl (Nat.le_of_ble_eq_true rfl) ⟨Nat.zero_le _, Nat.zero_le _⟩ dX4_readStreet_35 ?_
    obtain ⟨h7, hf⟩ := x_gs hf
    obtain ⟨σ8, u9, hf⟩ := x_ws hf
    refine x_iast (kc := c1 + 1) (t0 := 0) B G.1 (s_kC1 hc1) (s_cC1 hc1) rfl h7 dX4_readStreet_38 ?_
    refine x_nm u9 ?_
    refine x_aload_n B dX4_readStreet_39 rfl 1 rfl ?_
    refine x_bipush (v := 44) B dX4_readStreet_40 (by decide) ?_
    obtain ⟨σ11, e10, hf⟩ := x_vs hf
    refine x_callVv (As := [.int 44]) (st := []) B G (mX4_readSign (l := l) G.1.2.1  e10) (cwV 1 B.2.2.2.2.1 gX4_readStreet_X4_readSign rfl rfl rfl hdX4_readSign (x_rm_ok (by omega) (by decide))) (by decide) s_c13 rfl rfl rfl (Nat.le_of_ble_eq_true rfl) ⟨Nat.zero_le _, Nat.zero_le _⟩ dX4_readStreet_42 ?_
    refine x_aload_n B dX4_readStreet_45 rfl 2 rfl ?_
    refine x_get (v := .ref (ad (c1 + 2))) (kc := c1) (index := 77) B G.1 iX4_readStreet_cX2 rfl (s_kC hc1) (s_cC hc1) 7 (by decide) iX4_readStreet_3 rfl dX4_readStreet_46 ?_
    refine x_iload_n B dX4_readStreet_49 rfl 0 rfl ?_
    refine x_aload_n B dX4_readStreet_50 rfl 1 rfl ?_
    refine x_iconst (v := 0) B dX4_readStreet_51 (by decide) ?_
    refine x_bipush (v := 9) B dX4_readStreet_52 (by decide) ?_
    obtain ⟨r13, σ14, e12, hf⟩ := x_bs hf
    refine x_callV (As := [.int 0, .int 9]) (st := [.int (σ c1 3), .ref (ad (c1 + 2))]) B G (mX4_readNumber (l := l) G.1.2.1  e12) (cwV 2 B.2.2.2.2.1 gX4_readStreet_X4_readNumber rfl rfl rfl hdX4_readNumber (x_rm_ok (by omega) (by decide))) (by decide) s_c13 rfl rfl rfl (Nat.le_of_ble_eq_true rfl) ⟨Nat.zero_le _, Nat.zero_le _⟩ dX4_readStreet_54 ?_
    obtain ⟨h15, hf⟩ := x_gs hf
    obtain ⟨σ16, u17, hf⟩ := x_ws hf
    refine x_iast (kc := c1 + 2) (t0 := 0) B G.1 (s_kC2 hc1) (s_cC2 hc1) rfl h15 dX4_readStreet_57 ?_
    refine x_nm u17 ?_
    refine x_aload_n B dX4_readStreet_58 rfl 1 rfl ?_
    refine x_bipush (v := 59) B dX4_readStreet_59 (by decide) ?_
    obtain ⟨σ19, e18, hf⟩ := x_vs hf
    refine x_callVv (As := [.int 59]) (st := []) B G (mX4_readSign (l := l) G.1.2.1  e18) (cwV 1 B.2.2.2.2.1 gX4_readStreet_X4_readSign rfl rfl rfl hdX4_readSign (x_rm_ok (by omega) (by decide))) (by decide) s_c13 rfl rfl rfl (Nat.le_of_ble_eq_true rfl) ⟨Nat.zero_le _, Nat.zero_le _⟩ dX4_readStreet_61 ?_
    refine x_aload_n B dX4_readStreet_64 rfl 2 rfl ?_
    refine x_dup B dX4_readStreet_65 rfl ?_
    refine x_get (v := .int (σ19 c1 3)) (kc := c1) (index := 71) B G.1 iX4_readStreet_cX2 rfl (s_kC hc1) (s_cC hc1) 3 (by decide) iX4_readStreet_0 rfl dX4_readStreet_66 ?_
    refine x_iconst (v := 1) B dX4_readStreet_69 (by decide) ?_
    refine x_iadd B dX4_readStreet_70 ?_
    obtain ⟨σ20, u21, hf⟩ := x_ws hf
    refine x_put (v := ((σ19 c1 3) + 1)) (ty := .int) (kc := c1) (index := 71) B G.1 iX4_readStreet_cX2 tyX2 tyX2_ok nmX2 rfl (s_kC hc1) (s_cC hc1) 3 (by decide) iX4_readStreet_0 rfl rfl rfl rfl (Nat.le_of_ble_eq_true rfl) (s_w2_3 _ _) dX4_readStreet_71 ?_
    refine x_nm u21 ?_
    obtain rfl := x_retV hf
    exact x_vret B hr dX4_readStreet_74
  · replace hf := x_if h1 hf
    refine x_aload_n B dX4_readStreet_9 rfl 0 rfl ?_
    refine x_iconst (v := 3) B dX4_readStreet_10 (by decide) ?_
    obtain ⟨σ23, e22, hf⟩ := x_vs hf
    refine x_callVv (As := [.int 3]) (st := []) B G (mX4_fail (l := l) G.1.2.1  e22) (cwV 1 B.2.2.2.2.1 gX4_readStreet_X4_fail rfl rfl rfl hdX4_fail (x_rm_ok (by omega) (by decide))) (by decide) s_c13 rfl rfl rfl (Nat.le_of_ble_eq_true rfl) ⟨Nat.zero_le _, Nat.zero_le _⟩ dX4_readStreet_11 ?_
    obtain rfl := x_retV hf
    exact x_vret B hr dX4_readStreet_14
theorem iX4_readGesture_0 : Cond.fieldLink RX4 80 "SignDuty$City" "gestures" "I" ∈ wsX4_readGesture := by decide +kernel
theorem iX4_readGesture_cX2 : ∀ w ∈ u_ws RX2 TX2 13, w ∈ wsX4_readGesture := by decide +kernel
theorem iX4_readGesture_2 : Cond.fieldLink RX4 83 "SignDuty$City" "kind" "[I" ∈ wsX4_readGesture := by decide +kernel
theorem iX4_readGesture_3 : Cond.fieldLink RX4 28 "SignDuty$Reader" "at" "I" ∈ wsX4_readGesture := by decide +kernel
theorem iX4_readGesture_cX4 : ∀ w ∈ u_ws RX4 TX4 6, w ∈ wsX4_readGesture := by decide +kernel
theorem iX4_readGesture_5 : Cond.fieldLink RX4 86 "SignDuty$City" "inches" "[I" ∈ wsX4_readGesture := by decide +kernel
theorem iX4_readGesture_6 : Cond.fieldLink RX4 89 "SignDuty$City" "means" "[I" ∈ wsX4_readGesture := by decide +kernel
theorem iX4_readGesture_7 : Cond.fieldLink RX4 92 "SignDuty$City" "takes" "[I" ∈ wsX4_readGesture := by decide +kernel
theorem iX4_readGesture_8 : Cond.fieldLink RX4 95 "SignDuty$City" "made" "[I" ∈ wsX4_readGesture := by decide +kernel
set_option maxRecDepth 100000 in
set_option maxHeartbeats 4000000 in
theorem mX4_readGesture {σ : x_S} {c1 : Nat} (hdis : x_dis s_N ad) (hc1 : s_iC c1) (hf : fX4_readGesture c1 σ = some σ0) : x_NV l yX4_readGesture wsX4_readGesture 3 D vwCl (s_tys cI cQ cC cZ) s_N (s_C cI cQ cC ad) ad (s_St aS) s_NW [.ref (ad 13), .ref (ad c1)] σ σ0 := by
  refine x_met (cc := cX4_readGesture) (own := RX4) (maxL := 3) (ret := none) (by decide +kernel) rfl rfl (Nat.le_of_ble_eq_true rfl) hdis (s_StOk aS) s_NwOk (fun p e s m args below meth c B G hr => ?_)
  unfold fX4_readGesture at hf
  refine x_sub (lv' := [(0, .ref (ad 13)), (1, .ref (ad c1))]) [0, 1] rfl ?_
  refine x_aload_n B dX4_readGesture_0 rfl 1 rfl ?_
  refine x_get (v := .int (σ c1 5)) (kc := c1) (index := 80) B G.1 iX4_readGesture_cX2 rfl (s_kC hc1) (s_cC hc1) 5 (by decide) iX4_readGesture_0 rfl dX4_readGesture_1 ?_
  refine x_bipush (v := 6) B dX4_readGesture_4 (by decide) ?_
  refine x_icmp_lt (tgt := 15) B dX4_readGesture_6 (by decide) (fun h1 => ?_) (fun h1 => ?_)
  · replace hf := x_it h1 hf
    refine x_aload_n B dX4_readGesture_15 rfl 1 rfl ?_
    refine x_get (v := .int (σ c1 5)) (kc := c1) (index := 80) B G.1 iX4_readGesture_cX2 rfl (s_kC hc1) (s_cC hc1) 5 (by decide) iX4_readGesture_0 rfl dX4_readGesture_16 ?_
    refine x_istore_n (lv' := [(2, .int (σ c1 5)), (0, .ref (ad 13)), (1, .ref (ad c1))]) B dX4_readGesture_19 rfl (by decide) rfl ?_
    refine x_aload_n B dX4_readGesture_20 rfl 2 rfl ?_
    refine x_get (v := .ref (ad (c1 + 3))) (kc := c1) (index := 83) B G.1 iX4_readGesture_cX2 rfl (s_kC hc1) (s_cC hc1) 8 (by decide) iX4_readGesture_2 rfl dX4_readGesture_21 ?_
    refine x_iload_n B dX4_readGesture_24 rfl 0 rfl ?_
    refine x_aload_n B dX4_readGesture_25 rfl 1 rfl ?_
    obtain ⟨r3, e2, hf⟩ := x_ps hf
    refine x_callV (As := []) (st := [.int (σ c1 5), .ref (ad (c1 + 3))]) B G (mX4_next (l := l) G.1.2.1  e2) (cwV 0 B.2.2.2.2.1 gX4_readGesture_X4_next rfl rfl rfl hdX4_next (x_rm_ok (by omega) (by decide))) (by decide) s_c13 rfl rfl rfl (Nat.le_of_ble_eq_true rfl) ⟨Nat.zero_le _, Nat.zero_le _⟩ dX4_readGesture_26 ?_
    obtain ⟨r5, e4, hf⟩ := x_ps hf
    refine x_callS (As := [.int r3]) (st := [.int (σ c1 5), .ref (ad (c1 + 3))]) B G (mX3_ofLetter (l := l) G.1.2.1  e4) (va_cwS 1 B.2.2.2.2.1 gX4_readGesture_X3_ofLetter rfl rfl rfl hdX3_ofLetter (x_rm_ok (by omega) (by decide))) rfl rfl (Nat.le_of_ble_eq_true rfl) ⟨Nat.zero_le _, Nat.zero_le _⟩ dX4_readGesture_29 ?_
    obtain ⟨h6, hf⟩ := x_gs hf
    obtain ⟨σ7, u8, hf⟩ := x_ws hf
    refine x_iast (kc := c1 + 3) (t0 := 0) B G.1 (s_kC3 hc1) (s_cC3 hc1) rfl h6 dX4_readGesture_32 ?_
    refine x_nm u8 ?_
    refine x_aload_n B dX4_readGesture_33 rfl 1 rfl ?_
    refine x_dup B dX4_readGesture_34 rfl ?_
    refine x_get (v := .int (σ7 13 5)) (kc := 13) (index := 28) B G.1 iX4_readGesture_cX4 rfl (by decide) s_c13 5 (by decide) iX4_readGesture_3 rfl dX4_readGesture_35 ?_
    refine x_iconst (v := 1) B dX4_readGesture_38 (by decide) ?_
    refine x_iadd B dX4_readGesture_39 ?_
    obtain ⟨σ9, u10, hf⟩ := x_ws hf
    refine x_put (v := ((σ7 13 5) + 1)) (ty := .int) (kc := 13) (index := 28) B G.1 iX4_readGesture_cX4 tyX4 tyX4_ok nmX4 rfl (by decide) s_c13 5 (by decide) iX4_readGesture_3 rfl rfl rfl rfl (Nat.le_of_ble_eq_true rfl) (s_w4_5 _ _) dX4_readGesture_40 ?_
    refine x_nm u10 ?_
    refine x_aload_n B dX4_readGesture_43 rfl 2 rfl ?_
    refine x_get (v := .ref (ad (c1 + 4))) (kc := c1) (index := 86) B G.1 iX4_readGesture_cX2 rfl (s_kC hc1) (s_cC hc1) 9 (by decide) iX4_readGesture_5 rfl dX4_readGesture_44 ?_
    refine x_iload_n B dX4_readGesture_47 rfl 0 rfl ?_
    refine x_aload_n B dX4_readGesture_48 rfl 1 rfl ?_
    refine x_iconst (v := 1) B dX4_readGesture_49 (by decide) ?_
    refine x_bipush (v := 30) B dX4_readGesture_50 (by decide) ?_
    obtain ⟨r12, σ13, e11, hf⟩ := x_bs hf
    refine x_callV (As := [.int 1, .int 30]) (st := [.int (σ c1 5), .ref (ad (c1 + 4))]) B G (mX4_readNumber (l := l) G.1.2.1  e11) (cwV 2 B.2.2.2.2.1 gX4_readGesture_X4_readNumber rfl rfl rfl hdX4_readNumber (x_rm_ok (by omega) (by decide))) (by decide) s_c13 rfl rfl rfl (Nat.le_of_ble_eq_true rfl) ⟨Nat.zero_le _, Nat.zero_le _⟩ dX4_readGesture_52 ?_
    obtain ⟨h14, hf⟩ := x_gs hf
    obtain ⟨σ15, u16, hf⟩ := x_ws hf
    refine x_iast (kc := c1 + 4) (t0 := 0) B G.1 (s_kC4 hc1) (s_cC4 hc1) rfl h14 dX4_readGesture_55 ?_
    refine x_nm u16 ?_
    refine x_aload_n B dX4_readGesture_56 rfl 1 rfl ?_
    refine x_bipush (v := 44) B dX4_readGesture_57 (by decide) ?_
    obtain ⟨σ18, e17, hf⟩ := x_vs hf
    refine x_callVv (As := [.int 44]) (st := []) B G (mX4_readSign (l := l) G.1.2.1  e17) (cwV 1 B.2.2.2.2.1 gX4_readGesture_X4_readSign rfl rfl rfl hdX4_readSign (x_rm_ok (by omega) (by decide))) (by decide) s_c13 rfl rfl rfl (Nat.le_of_ble_eq_true rfl) ⟨Nat.zero_le _, Nat.zero_le _⟩ dX4_readGesture_59 ?_
    refine x_aload_n B dX4_readGesture_62 rfl 2 rfl ?_
    refine x_get (v := .ref (ad (c1 + 5))) (kc := c1) (index := 89) B G.1 iX4_readGesture_cX2 rfl (s_kC hc1) (s_cC hc1) 10 (by decide) iX4_readGesture_6 rfl dX4_readGesture_63 ?_
    refine x_iload_n B dX4_readGesture_66 rfl 0 rfl ?_
    refine x_aload_n B dX4_readGesture_67 rfl 1 rfl ?_
    refine x_iconst (v := 0) B dX4_readGesture_68 (by decide) ?_
    refine x_iconst (v := 3) B dX4_readGesture_69 (by decide) ?_
    obtain ⟨r20, σ21, e19, hf⟩ := x_bs hf
    refine x_callV (As := [.int 0, .int 3]) (st := [.int (σ c1 5), .ref (ad (c1 + 5))]) B G (mX4_readNumber (l := l) G.1.2.1  e19) (cwV 2 B.2.2.2.2.1 gX4_readGesture_X4_readNumber rfl rfl rfl hdX4_readNumber (x_rm_ok (by omega) (by decide))) (by decide) s_c13 rfl rfl rfl (Nat.le_of_ble_eq_true rfl) ⟨Nat.zero_le _, Nat.zero_le _⟩ dX4_readGesture_70 ?_
    obtain ⟨h22, hf⟩ := x_gs hf
    obtain ⟨σ23, u24, hf⟩ := x_ws hf
    refine x_iast (kc := c1 + 5) (t0 := 0) B G.1 (s_kC5 hc1) (s_cC5 hc1) rfl h22 dX4_readGesture_73 ?_
    refine x_nm u24 ?_
    refine x_aload_n B dX4_readGesture_74 rfl 1 rfl ?_
    refine x_bipush (v := 44) B dX4_readGesture_75 (by decide) ?_
    obtain ⟨σ26, e25, hf⟩ := x_vs hf
    refine x_callVv (As := [.int 44]) (st := []) B G (mX4_readSign (l := l) G.1.2.1  e25) (cwV 1 B.2.2.2.2.1 gX4_readGesture_X4_readSign rfl rfl rfl hdX4_readSign (x_rm_ok (by omega) (by decide))) (by decide) s_c13 rfl rfl rfl (Nat.le_of_ble_eq_true rfl) ⟨Nat.zero_le _, Nat.zero_le _⟩ dX4_readGesture_77 ?_
    refine x_aload_n B dX4_readGesture_80 rfl 2 rfl ?_
    refine x_get (v := .ref (ad (c1 + 6))) (kc := c1) (index := 92) B G.1 iX4_readGesture_cX2 rfl (s_kC hc1) (s_cC hc1) 11 (by decide) iX4_readGesture_7 rfl dX4_readGesture_81 ?_
    refine x_iload_n B dX4_readGesture_84 rfl 0 rfl ?_
    refine x_aload_n B dX4_readGesture_85 rfl 1 rfl ?_
    refine x_iconst (v := 1) B dX4_readGesture_86 (by decide) ?_
    refine x_bipush (v := 9) B dX4_readGesture_87 (by decide) ?_
    obtain ⟨r28, σ29, e27, hf⟩ := x_bs hf
    refine x_callV (As := [.int 1, .int 9]) (st := [.int (σ c1 5), .ref (ad (c1 + 6))]) B G (mX4_readNumber (l := l) G.1.2.1  e27) (cwV 2 B.2.2.2.2.1 gX4_readGesture_X4_readNumber rfl rfl rfl hdX4_readNumber (x_rm_ok (by omega) (by decide))) (by decide) s_c13 rfl rfl rfl (Nat.le_of_ble_eq_true rfl) ⟨Nat.zero_le _, Nat.zero_le _⟩ dX4_readGesture_89 ?_
    obtain ⟨h30, hf⟩ := x_gs hf
    obtain ⟨σ31, u32, hf⟩ := x_ws hf
    refine x_iast (kc := c1 + 6) (t0 := 0) B G.1 (s_kC6 hc1) (s_cC6 hc1) rfl h30 dX4_readGesture_92 ?_
    refine x_nm u32 ?_
    refine x_aload_n B dX4_readGesture_93 rfl 1 rfl ?_
    refine x_bipush (v := 59) B dX4_readGesture_94 (by decide) ?_
    obtain ⟨σ34, e33, hf⟩ := x_vs hf
    refine x_callVv (As := [.int 59]) (st := []) B G (mX4_readSign (l := l) G.1.2.1  e33) (cwV 1 B.2.2.2.2.1 gX4_readGesture_X4_readSign rfl rfl rfl hdX4_readSign (x_rm_ok (by omega) (by decide))) (by decide) s_c13 rfl rfl rfl (Nat.le_of_ble_eq_true rfl) ⟨Nat.zero_le _, Nat.zero_le _⟩ dX4_readGesture_96 ?_
    refine x_aload_n B dX4_readGesture_99 rfl 2 rfl ?_
    refine x_get (v := .ref (ad (c1 + 7))) (kc := c1) (index := 95) B G.1 iX4_readGesture_cX2 rfl (s_kC hc1) (s_cC hc1) 12 (by decide) iX4_readGesture_8 rfl dX4_readGesture_100 ?_
    refine x_iload_n B dX4_readGesture_103 rfl 0 rfl ?_
    refine x_iconst (v := 0) B dX4_readGesture_104 (by decide) ?_
    obtain ⟨h35, hf⟩ := x_gs hf
    obtain ⟨σ36, u37, hf⟩ := x_ws hf
    refine x_iast (kc := c1 + 7) (t0 := 0) B G.1 (s_kC7 hc1) (s_cC7 hc1) rfl h35 dX4_readGesture_105 ?_
    refine x_nm u37 ?_
    refine x_aload_n B dX4_readGesture_106 rfl 2 rfl ?_
    refine x_dup B dX4_readGesture_107 rfl ?_
    refine x_get (v := .int (σ36 c1 5)) (kc := c1) (index := 80) B G.1 iX4_readGesture_cX2 rfl (s_kC hc1) (s_cC hc1) 5 (by decide) iX4_readGesture_0 rfl dX4_readGesture_108 ?_
    refine x_iconst (v := 1) B dX4_readGesture_111 (by decide) ?_
    refine x_iadd B dX4_readGesture_112 ?_
    obtain ⟨σ38, u39, hf⟩ := x_ws hf
    refine x_put (v := ((σ36 c1 5) + 1)) (ty := .int) (kc := c1) (index := 80) B G.1 iX4_readGesture_cX2 tyX2 tyX2_ok nmX2 rfl (s_kC hc1) (s_cC hc1) 5 (by decide) iX4_readGesture_0 rfl rfl rfl rfl (Nat.le_of_ble_eq_true rfl) (s_w2_5 _ _) dX4_readGesture_113 ?_
    refine x_nm u39 ?_
    obtain rfl := x_retV hf
    exact x_vret B hr dX4_readGesture_116
  · replace hf := x_if h1 hf
    refine x_aload_n B dX4_readGesture_9 rfl 0 rfl ?_
    refine x_iconst (v := 3) B dX4_readGesture_10 (by decide) ?_
    obtain ⟨σ41, e40, hf⟩ := x_vs hf
    refine x_callVv (As := [.int 3]) (st := []) B G (mX4_fail (l := l) G.1.2.1  e40) (cwV 1 B.2.2.2.2.1 gX4_readGesture_X4_fail rfl rfl rfl hdX4_fail (x_rm_ok (by omega) (by decide))) (by decide) s_c13 rfl rfl rfl (Nat.le_of_ble_eq_true rfl) ⟨Nat.zero_le _, Nat.zero_le _⟩ dX4_readGesture_11 ?_
    obtain rfl := x_retV hf
    exact x_vret B hr dX4_readGesture_14
theorem iX4_reads_0 : Cond.fieldLink RX4 25 "SignDuty$Reader" "fault" "I" ∈ wsX4_reads := by decide +kernel
theorem iX4_reads_cX4 : ∀ w ∈ u_ws RX4 TX4 6, w ∈ wsX4_reads := by decide +kernel
theorem iX4_reads_2 : Cond.fieldLink RX4 28 "SignDuty$Reader" "at" "I" ∈ wsX4_reads := by decide +kernel
theorem iX4_reads_3 : Cond.fieldLink RX4 15 "SignDuty$Reader" "length" "I" ∈ wsX4_reads := by decide +kernel
set_option maxRecDepth 100000 in
set_option maxHeartbeats 4000000 in
theorem kX4_reads_102 {σ : x_S} (B : x_B p s m args meth c cX4_reads 3 wsX4_reads RX4) (G : x_H s D vwCl (s_tys cI cQ cC cZ) s_N ad (x_A s_N ad) (s_St aS) s_NW) (hr : meth.sig.returnType = (some .boolean)) (hf : bX4_reads_102   σ = some (r0, σ0)) : x_J p l e (x_rm 4) s m args below meth c 0 0 (MQ below (x_Qi D vwCl s_N (s_C cI cQ cC ad) ad r0 σ0) args s 0 0 (x_A s_N ad)) (x_A s_N ad) 3 (x_I D vwCl s_N (s_C cI cQ cC ad) ad σ) [(0, .ref (ad 13))] [] 102 := by
  unfold bX4_reads_102 at hf
  refine x_aload_n B dX4_reads_102 rfl 0 rfl ?_
  refine x_iconst (v := 0) B dX4_reads_103 (by decide) ?_
  obtain ⟨σ1, u2, hf⟩ := x_ws hf
  refine x_put (v := 0) (ty := .int) (kc := 13) (index := 15) B G.1 iX4_reads_cX4 tyX4 tyX4_ok nmX4 rfl (by decide) s_c13 1 (by decide) iX4_reads_3 rfl rfl rfl rfl (Nat.le_of_ble_eq_true rfl) (s_w4_1 _ _) dX4_reads_104 ?_
  refine x_nm u2 ?_
  refine x_aload_n B dX4_reads_107 rfl 0 rfl ?_
  refine x_get (v := .int (σ1 13 4)) (kc := 13) (index := 25) B G.1 iX4_reads_cX4 rfl (by decide) s_c13 4 (by decide) iX4_reads_0 rfl dX4_reads_108 ?_
  refine x_if_ne (tgt := 118) B dX4_reads_111 (by decide) (fun h3 => ?_) (fun h3 => ?_)
  · replace hf := x_if h3 hf
    refine x_iconst (v := 0) B dX4_reads_118 (by decide) ?_
    obtain ⟨rfl, rfl⟩ := x_retI hf
    exact x_zret B hr (by decide) dX4_reads_119
  · replace hf := x_it h3 hf
    refine x_iconst (v := 1) B dX4_reads_114 (by decide) ?_
    refine x_goto (tgt := 119) B dX4_reads_115 (by decide) ?_
    obtain ⟨rfl, rfl⟩ := x_retI hf
    exact x_zret B hr (by decide) dX4_reads_119
set_option maxRecDepth 100000 in
set_option maxHeartbeats 4000000 in
theorem kX4_reads_86 {σ : x_S} (B : x_B p s m args meth c cX4_reads 3 wsX4_reads RX4) (G : x_H s D vwCl (s_tys cI cQ cC cZ) s_N ad (x_A s_N ad) (s_St aS) s_NW) (hr : meth.sig.returnType = (some .boolean)) (hf : bX4_reads_86   σ = some (r0, σ0)) : x_J p l e (x_rm 4) s m args below meth c 0 0 (MQ below (x_Qi D vwCl s_N (s_C cI cQ cC ad) ad r0 σ0) args s 0 0 (x_A s_N ad)) (x_A s_N ad) 3 (x_I D vwCl s_N (s_C cI cQ cC ad) ad σ) [(0, .ref (ad 13))] [] 86 := by
  unfold bX4_reads_86 at hf
  refine x_aload_n B dX4_reads_86 rfl 0 rfl ?_
  refine x_get (v := .int (σ 13 5)) (kc := 13) (index := 28) B G.1 iX4_reads_cX4 rfl (by decide) s_c13 5 (by decide) iX4_reads_2 rfl dX4_reads_87 ?_
  refine x_aload_n B dX4_reads_90 rfl 0 rfl ?_
  refine x_get (v := .int (σ 13 1)) (kc := 13) (index := 15) B G.1 iX4_reads_cX4 rfl (by decide) s_c13 1 (by decide) iX4_reads_3 rfl dX4_reads_91 ?_
  refine x_icmp_ge (tgt := 102) B dX4_reads_94 (by decide) (fun h1 => ?_) (fun h1 => ?_)
  · replace hf := x_it h1 hf
    refine x_sub [0] rfl ?_
    exact kX4_reads_102 B G hr hf
  · replace hf := x_if h1 hf
    refine x_aload_n B dX4_reads_97 rfl 0 rfl ?_
    refine x_iconst (v := 1) B dX4_reads_98 (by decide) ?_
    obtain ⟨σ3, e2, hf⟩ := x_vs hf
    refine x_callVv (As := [.int 1]) (st := []) B G (mX4_fail (l := l) G.1.2.1  e2) (cwV 1 B.2.2.2.2.1 gX4_reads_X4_fail rfl rfl rfl hdX4_fail (x_rm_ok (by omega) (by decide))) (by decide) s_c13 rfl rfl rfl (Nat.le_of_ble_eq_true rfl) ⟨Nat.zero_le _, Nat.zero_le _⟩ dX4_reads_99 ?_
    refine x_sub [0] rfl ?_
    exact kX4_reads_102 B G hr hf
set_option maxRecDepth 100000 in
set_option maxHeartbeats 4000000 in
theorem qX4_reads_52 {σ : x_S} {c1 : Nat} {x2 : Int32} {K52 : Int32 → x_S → Option (Int32 × x_S)} (B : x_B p s m args meth c cX4_reads 3 wsX4_reads RX4) (G : x_H s D vwCl (s_tys cI cQ cC cZ) s_N ad (x_A s_N ad) (s_St aS) s_NW) (hr : meth.sig.returnType = (some .boolean)) (hK52 : ∀ (x2 : Int32) (σ : x_S), K52 x2 σ = some (r0, σ0) → x_J p l e (x_rm 4) s m args below meth c 0 0 (MQ below (x_Qi D vwCl s_N (s_C cI cQ cC ad) ad r0 σ0) args s 0 0 (x_A s_N ad)) (x_A s_N ad) 3 (x_I D vwCl s_N (s_C cI cQ cC ad) ad σ) [(0, .ref (ad 13)), (1, .ref (ad c1)), (2, .int x2)] [] 52) (hc1 : s_iC c1) (hf : gX4_reads_52  c1 K52 x2 σ = some (r0, σ0)) : x_J p l e (x_rm 4) s m args below meth c 0 0 (MQ below (x_Qi D vwCl s_N (s_C cI cQ cC ad) ad r0 σ0) args s 0 0 (x_A s_N ad)) (x_A s_N ad) 3 (x_I D vwCl s_N (s_C cI cQ cC ad) ad σ) [(0, .ref (ad 13)), (1, .ref (ad c1)), (2, .int x2)] [] 52 := by
  unfold gX4_reads_52 at hf
  refine x_iload_n B dX4_reads_52 rfl 2 rfl ?_
  refine x_bipush (v := 120) B dX4_reads_53 (by decide) ?_
  refine x_icmp_ge (tgt := 86) B dX4_reads_55 (by decide) (fun h1 => ?_) (fun h1 => ?_)
  · replace hf := x_it h1 hf
    refine x_sub [0] rfl ?_
    exact kX4_reads_86 B G hr hf
  · replace hf := x_if h1 hf
    refine x_aload_n B dX4_reads_58 rfl 0 rfl ?_
    refine x_get (v := .int (σ 13 4)) (kc := 13) (index := 25) B G.1 iX4_reads_cX4 rfl (by decide) s_c13 4 (by decide) iX4_reads_0 rfl dX4_reads_59 ?_
    refine x_if_ne (tgt := 86) B dX4_reads_62 (by decide) (fun h2 => ?_) (fun h2 => ?_)
    · replace hf := x_if h2 hf
      refine x_sub [0] rfl ?_
      exact kX4_reads_86 B G hr hf
    · replace hf := x_it h2 hf
      refine x_aload_n B dX4_reads_65 rfl 0 rfl ?_
      obtain ⟨r4, e3, hf⟩ := x_ps hf
      refine x_callV (As := []) (st := []) B G (mX4_next (l := l) G.1.2.1  e3) (cwV 0 B.2.2.2.2.1 gX4_reads_X4_next rfl rfl rfl hdX4_next (x_rm_ok (by omega) (by decide))) (by decide) s_c13 rfl rfl rfl (Nat.le_of_ble_eq_true rfl) ⟨Nat.zero_le _, Nat.zero_le _⟩ dX4_reads_66 ?_
      obtain ⟨r6, e5, hf⟩ := x_ps hf
      refine x_callS (As := [.int r4]) (st := []) B G (mX3_ofLetter (l := l) G.1.2.1  e5) (va_cwS 1 B.2.2.2.2.1 gX4_reads_X3_ofLetter rfl rfl rfl hdX3_ofLetter (x_rm_ok (by omega) (by decide))) rfl rfl (Nat.le_of_ble_eq_true rfl) ⟨Nat.zero_le _, Nat.zero_le _⟩ dX4_reads_69 ?_
      refine x_if_eq (tgt := 86) B dX4_reads_72 (by decide) (fun h7 => ?_) (fun h7 => ?_)
      · replace hf := x_it h7 hf
        refine x_sub [0] rfl ?_
        exact kX4_reads_86 B G hr hf
      · replace hf := x_if h7 hf
        refine x_aload_n B dX4_reads_75 rfl 0 rfl ?_
        refine x_aload_n B dX4_reads_76 rfl 1 rfl ?_
        obtain ⟨σ9, e8, hf⟩ := x_vs hf
        refine x_callVv (As := [.ref (ad c1)]) (st := []) B G (mX4_readGesture (l := l) G.1.2.1 hc1 e8) (cwV 1 B.2.2.2.2.1 gX4_reads_X4_readGesture rfl rfl rfl hdX4_readGesture (x_rm_ok (by omega) (by decide))) (by decide) s_c13 rfl rfl rfl (Nat.le_of_ble_eq_true rfl) ⟨Nat.zero_le _, Nat.zero_le _⟩ dX4_reads_77 ?_
        refine x_iinc (v := (x2 + 1)) (lv' := [(2, .int (x2 + 1)), (0, .ref (ad 13)), (1, .ref (ad c1))]) B dX4_reads_80 2 rfl rfl (by decide) rfl ?_
        refine x_goto (tgt := 52) B dX4_reads_83 (by decide) ?_
        refine x_sub [1, 2, 0] rfl ?_
        exact hK52 _ _ hf
set_option maxRecDepth 100000 in
set_option maxHeartbeats 4000000 in
theorem kX4_reads_52 {σ : x_S} {c1 : Nat} {x2 : Int32} (B : x_B p s m args meth c cX4_reads 3 wsX4_reads RX4) (G : x_H s D vwCl (s_tys cI cQ cC cZ) s_N ad (x_A s_N ad) (s_St aS) s_NW) (hr : meth.sig.returnType = (some .boolean)) (hc1 : s_iC c1) (hf : bX4_reads_52  c1 x2 σ = some (r0, σ0)) : x_J p l e (x_rm 4) s m args below meth c 0 0 (MQ below (x_Qi D vwCl s_N (s_C cI cQ cC ad) ad r0 σ0) args s 0 0 (x_A s_N ad)) (x_A s_N ad) 3 (x_I D vwCl s_N (s_C cI cQ cC ad) ad σ) [(0, .ref (ad 13)), (1, .ref (ad c1)), (2, .int x2)] [] 52 := by
  have key : ∀ (n : Nat) (x2 : Int32) (σ : x_S), x_fx (α := Int32 → x_S → Option (Int32 × x_S)) (fun _ _ => none) (fun K => fun x2 σ => gX4_reads_52  c1 K x2 σ) n x2 σ = some (r0, σ0) → x_J p l e (x_rm 4) s m args below meth c 0 0 (MQ below (x_Qi D vwCl s_N (s_C cI cQ cC ad) ad r0 σ0) args s 0 0 (x_A s_N ad)) (x_A s_N ad) 3 (x_I D vwCl s_N (s_C cI cQ cC ad) ad σ) [(0, .ref (ad 13)), (1, .ref (ad c1)), (2, .int x2)] [] 52 := by
    intro n
    induction n with
    | zero => intro x2 σ h; cases h
    | succ n ih => intro x2 σ h; exact qX4_reads_52 B G hr  ih hc1 h
  exact key x_F x2 σ hf
set_option maxRecDepth 100000 in
set_option maxHeartbeats 4000000 in
theorem qX4_reads_17 {σ : x_S} {c1 : Nat} {x2 : Int32} {K17 : Int32 → x_S → Option (Int32 × x_S)} (B : x_B p s m args meth c cX4_reads 3 wsX4_reads RX4) (G : x_H s D vwCl (s_tys cI cQ cC cZ) s_N ad (x_A s_N ad) (s_St aS) s_NW) (hr : meth.sig.returnType = (some .boolean)) (hK17 : ∀ (x2 : Int32) (σ : x_S), K17 x2 σ = some (r0, σ0) → x_J p l e (x_rm 4) s m args below meth c 0 0 (MQ below (x_Qi D vwCl s_N (s_C cI cQ cC ad) ad r0 σ0) args s 0 0 (x_A s_N ad)) (x_A s_N ad) 3 (x_I D vwCl s_N (s_C cI cQ cC ad) ad σ) [(0, .ref (ad 13)), (1, .ref (ad c1)), (2, .int x2)] [] 17) (hc1 : s_iC c1) (hf : gX4_reads_17  c1 K17 x2 σ = some (r0, σ0)) : x_J p l e (x_rm 4) s m args below meth c 0 0 (MQ below (x_Qi D vwCl s_N (s_C cI cQ cC ad) ad r0 σ0) args s 0 0 (x_A s_N ad)) (x_A s_N ad) 3 (x_I D vwCl s_N (s_C cI cQ cC ad) ad σ) [(0, .ref (ad 13)), (1, .ref (ad c1)), (2, .int x2)] [] 17 := by
  unfold gX4_reads_17 at hf
  refine x_iload_n B dX4_reads_17 rfl 2 rfl ?_
  refine x_bipush (v := 120) B dX4_reads_18 (by decide) ?_
  refine x_icmp_ge (tgt := 50) B dX4_reads_20 (by decide) (fun h1 => ?_) (fun h1 => ?_)
  · replace hf := x_it h1 hf
    refine x_iconst (v := 0) B dX4_reads_50 (by decide) ?_
    refine x_istore_n (lv' := [(2, .int 0), (0, .ref (ad 13)), (1, .ref (ad c1))]) B dX4_reads_51 rfl (by decide) rfl ?_
    refine x_sub [1, 2, 0] rfl ?_
    exact kX4_reads_52 B G hr hc1 hf
  · replace hf := x_if h1 hf
    refine x_aload_n B dX4_reads_23 rfl 0 rfl ?_
    refine x_get (v := .int (σ 13 4)) (kc := 13) (index := 25) B G.1 iX4_reads_cX4 rfl (by decide) s_c13 4 (by decide) iX4_reads_0 rfl dX4_reads_24 ?_
    refine x_if_ne (tgt := 50) B dX4_reads_27 (by decide) (fun h2 => ?_) (fun h2 => ?_)
    · replace hf := x_if h2 hf
      refine x_iconst (v := 0) B dX4_reads_50 (by decide) ?_
      refine x_istore_n (lv' := [(2, .int 0), (0, .ref (ad 13)), (1, .ref (ad c1))]) B dX4_reads_51 rfl (by decide) rfl ?_
      refine x_sub [1, 2, 0] rfl ?_
      exact kX4_reads_52 B G hr hc1 hf
    · replace hf := x_it h2 hf
      refine x_aload_n B dX4_reads_30 rfl 0 rfl ?_
      obtain ⟨r4, e3, hf⟩ := x_ps hf
      refine x_callV (As := []) (st := []) B G (mX4_next (l := l) G.1.2.1  e3) (cwV 0 B.2.2.2.2.1 gX4_reads_X4_next rfl rfl rfl hdX4_next (x_rm_ok (by omega) (by decide))) (by decide) s_c13 rfl rfl rfl (Nat.le_of_ble_eq_true rfl) ⟨Nat.zero_le _, Nat.zero_le _⟩ dX4_reads_31 ?_
      refine x_bipush (v := 114) B dX4_reads_34 (by decide) ?_
      refine x_icmp_ne (tgt := 50) B dX4_reads_36 (by decide) (fun h5 => ?_) (fun h5 => ?_)
      · replace hf := x_if h5 hf
        refine x_iconst (v := 0) B dX4_reads_50 (by decide) ?_
        refine x_istore_n (lv' := [(2, .int 0), (0, .ref (ad 13)), (1, .ref (ad c1))]) B dX4_reads_51 rfl (by decide) rfl ?_
        refine x_sub [1, 2, 0] rfl ?_
        exact kX4_reads_52 B G hr hc1 hf
      · replace hf := x_it h5 hf
        refine x_aload_n B dX4_reads_39 rfl 0 rfl ?_
        refine x_aload_n B dX4_reads_40 rfl 1 rfl ?_
        obtain ⟨σ7, e6, hf⟩ := x_vs hf
        refine x_callVv (As := [.ref (ad c1)]) (st := []) B G (mX4_readStreet (l := l) G.1.2.1 hc1 e6) (cwV 1 B.2.2.2.2.1 gX4_reads_X4_readStreet rfl rfl rfl hdX4_readStreet (x_rm_ok (by omega) (by decide))) (by decide) s_c13 rfl rfl rfl (Nat.le_of_ble_eq_true rfl) ⟨Nat.zero_le _, Nat.zero_le _⟩ dX4_reads_41 ?_
        refine x_iinc (v := (x2 + 1)) (lv' := [(2, .int (x2 + 1)), (0, .ref (ad 13)), (1, .ref (ad c1))]) B dX4_reads_44 2 rfl rfl (by decide) rfl ?_
        refine x_goto (tgt := 17) B dX4_reads_47 (by decide) ?_
        refine x_sub [1, 2, 0] rfl ?_
        exact hK17 _ _ hf
set_option maxRecDepth 100000 in
set_option maxHeartbeats 4000000 in
theorem kX4_reads_17 {σ : x_S} {c1 : Nat} {x2 : Int32} (B : x_B p s m args meth c cX4_reads 3 wsX4_reads RX4) (G : x_H s D vwCl (s_tys cI cQ cC cZ) s_N ad (x_A s_N ad) (s_St aS) s_NW) (hr : meth.sig.returnType = (some .boolean)) (hc1 : s_iC c1) (hf : bX4_reads_17  c1 x2 σ = some (r0, σ0)) : x_J p l e (x_rm 4) s m args below meth c 0 0 (MQ below (x_Qi D vwCl s_N (s_C cI cQ cC ad) ad r0 σ0) args s 0 0 (x_A s_N ad)) (x_A s_N ad) 3 (x_I D vwCl s_N (s_C cI cQ cC ad) ad σ) [(0, .ref (ad 13)), (1, .ref (ad c1)), (2, .int x2)] [] 17 := by
  have key : ∀ (n : Nat) (x2 : Int32) (σ : x_S), x_fx (α := Int32 → x_S → Option (Int32 × x_S)) (fun _ _ => none) (fun K => fun x2 σ => gX4_reads_17  c1 K x2 σ) n x2 σ = some (r0, σ0) → x_J p l e (x_rm 4) s m args below meth c 0 0 (MQ below (x_Qi D vwCl s_N (s_C cI cQ cC ad) ad r0 σ0) args s 0 0 (x_A s_N ad)) (x_A s_N ad) 3 (x_I D vwCl s_N (s_C cI cQ cC ad) ad σ) [(0, .ref (ad 13)), (1, .ref (ad c1)), (2, .int x2)] [] 17 := by
    intro n
    induction n with
    | zero => intro x2 σ h; cases h
    | succ n ih => intro x2 σ h; exact qX4_reads_17 B G hr  ih hc1 h
  exact key x_F x2 σ hf
set_option maxRecDepth 100000 in
set_option maxHeartbeats 4000000 in
theorem mX4_reads {σ : x_S} {c1 : Nat} (hdis : x_dis s_N ad) (hc1 : s_iC c1) (hf : fX4_reads c1 σ = some (r0, σ0)) : x_NI l yX4_reads wsX4_reads 4 D vwCl (s_tys cI cQ cC cZ) s_N (s_C cI cQ cC ad) ad (s_St aS) s_NW [.ref (ad 13), .ref (ad c1)] σ r0 σ0 := by
  refine x_met (cc := cX4_reads) (own := RX4) (maxL := 3) (ret := (some .boolean)) (by decide +kernel) rfl rfl (Nat.le_of_ble_eq_true rfl) hdis (s_StOk aS) s_NwOk (fun p e s m args below meth c B G hr => ?_)
  unfold fX4_reads at hf
  refine x_sub (lv' := [(0, .ref (ad 13)), (1, .ref (ad c1))]) [0, 1] rfl ?_
  refine x_aload_n B dX4_reads_0 rfl 0 rfl ?_
  refine x_iconst (v := 0) B dX4_reads_1 (by decide) ?_
  obtain ⟨σ1, u2, hf⟩ := x_ws hf
  refine x_put (v := 0) (ty := .int) (kc := 13) (index := 25) B G.1 iX4_reads_cX4 tyX4 tyX4_ok nmX4 rfl (by decide) s_c13 4 (by decide) iX4_reads_0 rfl rfl rfl rfl (Nat.le_of_ble_eq_true rfl) (s_w4_4 _ _) dX4_reads_2 ?_
  refine x_nm u2 ?_
  refine x_aload_n B dX4_reads_5 rfl 0 rfl ?_
  refine x_iconst (v := 0) B dX4_reads_6 (by decide) ?_
  obtain ⟨σ3, u4, hf⟩ := x_ws hf
  refine x_put (v := 0) (ty := .int) (kc := 13) (index := 28) B G.1 iX4_reads_cX4 tyX4 tyX4_ok nmX4 rfl (by decide) s_c13 5 (by decide) iX4_reads_2 rfl rfl rfl rfl (Nat.le_of_ble_eq_true rfl) (s_w4_5 _ _) dX4_reads_7 ?_
  refine x_nm u4 ?_
  refine x_aload_n B dX4_reads_10 rfl 0 rfl ?_
  refine x_aload_n B dX4_reads_11 rfl 1 rfl ?_
  obtain ⟨σ6, e5, hf⟩ := x_vs hf
  refine x_callVv (As := [.ref (ad c1)]) (st := []) B G (mX4_readLaw (l := l) G.1.2.1 hc1 e5) (cwV 1 B.2.2.2.2.1 gX4_reads_X4_readLaw rfl rfl rfl hdX4_readLaw (x_rm_ok (by omega) (by decide))) (by decide) s_c13 rfl rfl rfl (Nat.le_of_ble_eq_true rfl) ⟨Nat.zero_le _, Nat.zero_le _⟩ dX4_reads_12 ?_
  refine x_iconst (v := 0) B dX4_reads_15 (by decide) ?_
  refine x_istore_n (lv' := [(2, .int 0), (0, .ref (ad 13)), (1, .ref (ad c1))]) B dX4_reads_16 rfl (by decide) rfl ?_
  refine x_sub [1, 2, 0] rfl ?_
  exact kX4_reads_17 B G hr hc1 hf
end G
