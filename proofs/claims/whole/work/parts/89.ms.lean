section G
variable {p : Program} {l : Launch} {e : Env} {s : State} {m : MethodId} {args : Array Value} {below : List Frame} {meth : Method} {c : Code}
variable {D : va_G} {cI cQ cC cZ : ClassId} {ad aS : Nat → Nat} {r0 : Int32} {σ0 : x_S}
variable {k : Nat}
theorem hdX7_found : yX7_found.cls = RX7 ∧ yX7_found.cls ≠ "java/lang/invoke/MethodHandle" ∧ yX7_found.cls ≠ "java/lang/invoke/VarHandle" ∧ (parseMethodDescriptor yX7_found.desc).map (fun d => d.parameters.length) = some 1 := by decide +kernel
theorem hdX7_foundNothing : yX7_foundNothing.cls = RX7 ∧ yX7_foundNothing.cls ≠ "java/lang/invoke/MethodHandle" ∧ yX7_foundNothing.cls ≠ "java/lang/invoke/VarHandle" ∧ (parseMethodDescriptor yX7_foundNothing.desc).map (fun d => d.parameters.length) = some 1 := by decide +kernel
theorem hdX7_row : yX7_row.cls = RX7 ∧ yX7_row.cls ≠ "java/lang/invoke/MethodHandle" ∧ yX7_row.cls ≠ "java/lang/invoke/VarHandle" ∧ (parseMethodDescriptor yX7_row.desc).map (fun d => d.parameters.length) = some 3 := by decide +kernel
theorem hdX7_set : yX7_set.cls = RX7 ∧ yX7_set.cls ≠ "java/lang/invoke/MethodHandle" ∧ yX7_set.cls ≠ "java/lang/invoke/VarHandle" ∧ (parseMethodDescriptor yX7_set.desc).map (fun d => d.parameters.length) = some 3 := by decide +kernel
theorem hdX7_copy : yX7_copy.cls = RX7 ∧ yX7_copy.cls ≠ "java/lang/invoke/MethodHandle" ∧ yX7_copy.cls ≠ "java/lang/invoke/VarHandle" ∧ (parseMethodDescriptor yX7_copy.desc).map (fun d => d.parameters.length) = some 5 := by decide +kernel
theorem hdX7_drop : yX7_drop.cls = RX7 ∧ yX7_drop.cls ≠ "java/lang/invoke/MethodHandle" ∧ yX7_drop.cls ≠ "java/lang/invoke/VarHandle" ∧ (parseMethodDescriptor yX7_drop.desc).map (fun d => d.parameters.length) = some 1 := by decide +kernel
theorem hdX7_feed : yX7_feed.cls = RX7 ∧ yX7_feed.cls ≠ "java/lang/invoke/MethodHandle" ∧ yX7_feed.cls ≠ "java/lang/invoke/VarHandle" ∧ (parseMethodDescriptor yX7_feed.desc).map (fun d => d.parameters.length) = some 1 := by decide +kernel
theorem hdX7_city : yX7_city.cls = RX7 ∧ yX7_city.cls ≠ "java/lang/invoke/MethodHandle" ∧ yX7_city.cls ≠ "java/lang/invoke/VarHandle" ∧ (parseMethodDescriptor yX7_city.desc).map (fun d => d.parameters.length) = some 0 := by decide +kernel
theorem hdX7_fault : yX7_fault.cls = RX7 ∧ yX7_fault.cls ≠ "java/lang/invoke/MethodHandle" ∧ yX7_fault.cls ≠ "java/lang/invoke/VarHandle" ∧ (parseMethodDescriptor yX7_fault.desc).map (fun d => d.parameters.length) = some 0 := by decide +kernel
theorem hdX7_isGesture : yX7_isGesture.cls = RX7 ∧ yX7_isGesture.cls ≠ "java/lang/invoke/MethodHandle" ∧ yX7_isGesture.cls ≠ "java/lang/invoke/VarHandle" ∧ (parseMethodDescriptor yX7_isGesture.desc).map (fun d => d.parameters.length) = some 1 := by decide +kernel
theorem hdX7_isStreet : yX7_isStreet.cls = RX7 ∧ yX7_isStreet.cls ≠ "java/lang/invoke/MethodHandle" ∧ yX7_isStreet.cls ≠ "java/lang/invoke/VarHandle" ∧ (parseMethodDescriptor yX7_isStreet.desc).map (fun d => d.parameters.length) = some 1 := by decide +kernel
theorem hdX7_make : yX7_make.cls = RX7 ∧ yX7_make.cls ≠ "java/lang/invoke/MethodHandle" ∧ yX7_make.cls ≠ "java/lang/invoke/VarHandle" ∧ (parseMethodDescriptor yX7_make.desc).map (fun d => d.parameters.length) = some 2 := by decide +kernel
theorem hdX7_dim : yX7_dim.cls = RX7 ∧ yX7_dim.cls ≠ "java/lang/invoke/MethodHandle" ∧ yX7_dim.cls ≠ "java/lang/invoke/VarHandle" ∧ (parseMethodDescriptor yX7_dim.desc).map (fun d => d.parameters.length) = some 2 := by decide +kernel
theorem hdX7_train : yX7_train.cls = RX7 ∧ yX7_train.cls ≠ "java/lang/invoke/MethodHandle" ∧ yX7_train.cls ≠ "java/lang/invoke/VarHandle" ∧ (parseMethodDescriptor yX7_train.desc).map (fun d => d.parameters.length) = some 2 := by decide +kernel
theorem hdX7_know : yX7_know.cls = RX7 ∧ yX7_know.cls ≠ "java/lang/invoke/MethodHandle" ∧ yX7_know.cls ≠ "java/lang/invoke/VarHandle" ∧ (parseMethodDescriptor yX7_know.desc).map (fun d => d.parameters.length) = some 2 := by decide +kernel
theorem hdX7_undo : yX7_undo.cls = RX7 ∧ yX7_undo.cls ≠ "java/lang/invoke/MethodHandle" ∧ yX7_undo.cls ≠ "java/lang/invoke/VarHandle" ∧ (parseMethodDescriptor yX7_undo.desc).map (fun d => d.parameters.length) = some 0 := by decide +kernel
theorem hdX7_gesture : yX7_gesture.cls = RX7 ∧ yX7_gesture.cls ≠ "java/lang/invoke/MethodHandle" ∧ yX7_gesture.cls ≠ "java/lang/invoke/VarHandle" ∧ (parseMethodDescriptor yX7_gesture.desc).map (fun d => d.parameters.length) = some 2 := by decide +kernel
theorem hdX7_street : yX7_street.cls = RX7 ∧ yX7_street.cls ≠ "java/lang/invoke/MethodHandle" ∧ yX7_street.cls ≠ "java/lang/invoke/VarHandle" ∧ (parseMethodDescriptor yX7_street.desc).map (fun d => d.parameters.length) = some 2 := by decide +kernel
theorem hdX7_duty : yX7_duty.cls = RX7 ∧ yX7_duty.cls ≠ "java/lang/invoke/MethodHandle" ∧ yX7_duty.cls ≠ "java/lang/invoke/VarHandle" ∧ (parseMethodDescriptor yX7_duty.desc).map (fun d => d.parameters.length) = some 2 := by decide +kernel
theorem hdX7_isMeaning : yX7_isMeaning.cls ≠ "java/lang/invoke/MethodHandle" ∧ yX7_isMeaning.cls ≠ "java/lang/invoke/VarHandle" ∧ (parseMethodDescriptor yX7_isMeaning.desc).map (fun d => d.parameters.length) = some 1 := by decide +kernel
theorem hdX7_isStretch : yX7_isStretch.cls = RX7 ∧ yX7_isStretch.cls ≠ "java/lang/invoke/MethodHandle" ∧ yX7_isStretch.cls ≠ "java/lang/invoke/VarHandle" ∧ (parseMethodDescriptor yX7_isStretch.desc).map (fun d => d.parameters.length) = some 2 := by decide +kernel
theorem hdX7_tell : yX7_tell.cls = RX7 ∧ yX7_tell.cls ≠ "java/lang/invoke/MethodHandle" ∧ yX7_tell.cls ≠ "java/lang/invoke/VarHandle" ∧ (parseMethodDescriptor yX7_tell.desc).map (fun d => d.parameters.length) = some 5 := by decide +kernel
theorem hdX7_shut : yX7_shut.cls = RX7 ∧ yX7_shut.cls ≠ "java/lang/invoke/MethodHandle" ∧ yX7_shut.cls ≠ "java/lang/invoke/VarHandle" ∧ (parseMethodDescriptor yX7_shut.desc).map (fun d => d.parameters.length) = some 1 := by decide +kernel
theorem hdX7_quick : yX7_quick.cls = RX7 ∧ yX7_quick.cls ≠ "java/lang/invoke/MethodHandle" ∧ yX7_quick.cls ≠ "java/lang/invoke/VarHandle" ∧ (parseMethodDescriptor yX7_quick.desc).map (fun d => d.parameters.length) = some 3 := by decide +kernel
theorem hdX7_refusalOfThread : yX7_refusalOfThread.cls = RX7 ∧ yX7_refusalOfThread.cls ≠ "java/lang/invoke/MethodHandle" ∧ yX7_refusalOfThread.cls ≠ "java/lang/invoke/VarHandle" ∧ (parseMethodDescriptor yX7_refusalOfThread.desc).map (fun d => d.parameters.length) = some 3 := by decide +kernel
theorem hdX7_owesAlong : yX7_owesAlong.cls = RX7 ∧ yX7_owesAlong.cls ≠ "java/lang/invoke/MethodHandle" ∧ yX7_owesAlong.cls ≠ "java/lang/invoke/VarHandle" ∧ (parseMethodDescriptor yX7_owesAlong.desc).map (fun d => d.parameters.length) = some 5 := by decide +kernel
theorem hdX7_isSeenAlong : yX7_isSeenAlong.cls = RX7 ∧ yX7_isSeenAlong.cls ≠ "java/lang/invoke/MethodHandle" ∧ yX7_isSeenAlong.cls ≠ "java/lang/invoke/VarHandle" ∧ (parseMethodDescriptor yX7_isSeenAlong.desc).map (fun d => d.parameters.length) = some 4 := by decide +kernel
theorem hdX7_thread : yX7_thread.cls = RX7 ∧ yX7_thread.cls ≠ "java/lang/invoke/MethodHandle" ∧ yX7_thread.cls ≠ "java/lang/invoke/VarHandle" ∧ (parseMethodDescriptor yX7_thread.desc).map (fun d => d.parameters.length) = some 3 := by decide +kernel
theorem hdX7_inches : yX7_inches.cls = RX7 ∧ yX7_inches.cls ≠ "java/lang/invoke/MethodHandle" ∧ yX7_inches.cls ≠ "java/lang/invoke/VarHandle" ∧ (parseMethodDescriptor yX7_inches.desc).map (fun d => d.parameters.length) = some 4 := by decide +kernel
theorem hdX7_sorts : yX7_sorts.cls = RX7 ∧ yX7_sorts.cls ≠ "java/lang/invoke/MethodHandle" ∧ yX7_sorts.cls ≠ "java/lang/invoke/VarHandle" ∧ (parseMethodDescriptor yX7_sorts.desc).map (fun d => d.parameters.length) = some 4 := by decide +kernel
theorem hdX7_saved : yX7_saved.cls = RX7 ∧ yX7_saved.cls ≠ "java/lang/invoke/MethodHandle" ∧ yX7_saved.cls ≠ "java/lang/invoke/VarHandle" ∧ (parseMethodDescriptor yX7_saved.desc).map (fun d => d.parameters.length) = some 1 := by decide +kernel
theorem hdX7_worst : yX7_worst.cls = RX7 ∧ yX7_worst.cls ≠ "java/lang/invoke/MethodHandle" ∧ yX7_worst.cls ≠ "java/lang/invoke/VarHandle" ∧ (parseMethodDescriptor yX7_worst.desc).map (fun d => d.parameters.length) = some 2 := by decide +kernel
theorem hdX7_tenthsWithin : yX7_tenthsWithin.cls ≠ "java/lang/invoke/MethodHandle" ∧ yX7_tenthsWithin.cls ≠ "java/lang/invoke/VarHandle" ∧ (parseMethodDescriptor yX7_tenthsWithin.desc).map (fun d => d.parameters.length) = some 6 := by decide +kernel
theorem hdX7_commonDivisor : yX7_commonDivisor.cls ≠ "java/lang/invoke/MethodHandle" ∧ yX7_commonDivisor.cls ≠ "java/lang/invoke/VarHandle" ∧ (parseMethodDescriptor yX7_commonDivisor.desc).map (fun d => d.parameters.length) = some 2 := by decide +kernel
theorem hdX7_tremble : yX7_tremble.cls = RX7 ∧ yX7_tremble.cls ≠ "java/lang/invoke/MethodHandle" ∧ yX7_tremble.cls ≠ "java/lang/invoke/VarHandle" ∧ (parseMethodDescriptor yX7_tremble.desc).map (fun d => d.parameters.length) = some 6 := by decide +kernel
theorem hdX7_image : yX7_image.cls = RX7 ∧ yX7_image.cls ≠ "java/lang/invoke/MethodHandle" ∧ yX7_image.cls ≠ "java/lang/invoke/VarHandle" ∧ (parseMethodDescriptor yX7_image.desc).map (fun d => d.parameters.length) = some 1 := by decide +kernel
theorem hdX7_restore : yX7_restore.cls = RX7 ∧ yX7_restore.cls ≠ "java/lang/invoke/MethodHandle" ∧ yX7_restore.cls ≠ "java/lang/invoke/VarHandle" ∧ (parseMethodDescriptor yX7_restore.desc).map (fun d => d.parameters.length) = some 1 := by decide +kernel
theorem hdX7_kind : yX7_kind.cls = RX7 ∧ yX7_kind.cls ≠ "java/lang/invoke/MethodHandle" ∧ yX7_kind.cls ≠ "java/lang/invoke/VarHandle" ∧ (parseMethodDescriptor yX7_kind.desc).map (fun d => d.parameters.length) = some 1 := by decide +kernel
theorem hdX7_as : yX7_as.cls = RX7 ∧ yX7_as.cls ≠ "java/lang/invoke/MethodHandle" ∧ yX7_as.cls ≠ "java/lang/invoke/VarHandle" ∧ (parseMethodDescriptor yX7_as.desc).map (fun d => d.parameters.length) = some 2 := by decide +kernel
theorem hdX7_ask : yX7_ask.cls = RX7 ∧ yX7_ask.cls ≠ "java/lang/invoke/MethodHandle" ∧ yX7_ask.cls ≠ "java/lang/invoke/VarHandle" ∧ (parseMethodDescriptor yX7_ask.desc).map (fun d => d.parameters.length) = some 2 := by decide +kernel
theorem hdX7_trace : yX7_trace.cls = RX7 ∧ yX7_trace.cls ≠ "java/lang/invoke/MethodHandle" ∧ yX7_trace.cls ≠ "java/lang/invoke/VarHandle" ∧ (parseMethodDescriptor yX7_trace.desc).map (fun d => d.parameters.length) = some 1 := by decide +kernel
theorem hdJ6_bitCount_0f7a4 : yJ6_bitCount_0f7a4.cls ≠ "java/lang/invoke/MethodHandle" ∧ yJ6_bitCount_0f7a4.cls ≠ "java/lang/invoke/VarHandle" ∧ (parseMethodDescriptor yJ6_bitCount_0f7a4.desc).map (fun d => d.parameters.length) = some 1 := by decide +kernel
theorem hdX7_count : yX7_count.cls = RX7 ∧ yX7_count.cls ≠ "java/lang/invoke/MethodHandle" ∧ yX7_count.cls ≠ "java/lang/invoke/VarHandle" ∧ (parseMethodDescriptor yX7_count.desc).map (fun d => d.parameters.length) = some 1 := by decide +kernel
theorem hdX7_status : yX7_status.cls = RX7 ∧ yX7_status.cls ≠ "java/lang/invoke/MethodHandle" ∧ yX7_status.cls ≠ "java/lang/invoke/VarHandle" ∧ (parseMethodDescriptor yX7_status.desc).map (fun d => d.parameters.length) = some 0 := by decide +kernel
theorem iX7_found_0 : Cond.fieldLink RX7 58 "SignDuty" "lastFinding" "I" ∈ wsX7_found := by decide +kernel
theorem iX7_found_cX7 : ∀ w ∈ u_ws RX7 TX7 9, w ∈ wsX7_found := by decide +kernel
theorem iX7_found_2 : Cond.constant RX7 283 (-1000010) ∈ wsX7_found := by decide +kernel
set_option maxRecDepth 100000 in
set_option maxHeartbeats 4000000 in
theorem mX7_found {σ : x_S} {a1 : Int32} (hdis : x_dis s_N ad) (hf : fX7_found a1 σ = some (r0, σ0)) : x_NI l yX7_found wsX7_found 0 D vwCl (s_tys cI cQ cC cZ) s_N (s_C cI cQ cC ad) ad (s_St aS) s_NW [.ref (ad 0), .int a1] σ r0 σ0 := by
  refine x_met (cc := cX7_found) (own := RX7) (maxL := 2) (ret := (some .int)) (by decide +kernel) rfl rfl (Nat.le_of_ble_eq_true rfl) hdis (s_StOk aS) s_NwOk (fun p e s m args below meth c B G hr => ?_)
  unfold fX7_found at hf
  refine x_sub (lv' := [(0, .ref (ad 0)), (1, .int a1)]) [0, 1] rfl ?_
  refine x_aload_n B dX7_found_0 rfl 0 rfl ?_
  refine x_iload_n B dX7_found_1 rfl 1 rfl ?_
  obtain ⟨σ1, u2, hf⟩ := x_ws hf
  refine x_put (v := a1) (ty := .int) (kc := 0) (index := 58) B G.1 iX7_found_cX7 tyX7 tyX7_ok nmX7 rfl (by decide) s_c0 8 (by decide) iX7_found_0 rfl rfl rfl rfl (Nat.le_of_ble_eq_true rfl) (s_w7_8 _ _) dX7_found_2 ?_
  refine x_nm u2 ?_
  refine x_ldcw (v := (-1000010)) B iX7_found_2 dX7_found_5 ?_
  refine x_iload_n B dX7_found_8 rfl 1 rfl ?_
  refine x_isub B dX7_found_9 ?_
  obtain ⟨rfl, rfl⟩ := x_retI hf
  exact x_iret B hr dX7_found_10
theorem iX7_foundNothing_0 : Cond.fieldLink RX7 58 "SignDuty" "lastFinding" "I" ∈ wsX7_foundNothing := by decide +kernel
theorem iX7_foundNothing_cX7 : ∀ w ∈ u_ws RX7 TX7 9, w ∈ wsX7_foundNothing := by decide +kernel
set_option maxRecDepth 100000 in
set_option maxHeartbeats 4000000 in
theorem mX7_foundNothing {σ : x_S} {a1 : Int32} (hdis : x_dis s_N ad) (hf : fX7_foundNothing a1 σ = some (r0, σ0)) : x_NI l yX7_foundNothing wsX7_foundNothing 0 D vwCl (s_tys cI cQ cC cZ) s_N (s_C cI cQ cC ad) ad (s_St aS) s_NW [.ref (ad 0), .int a1] σ r0 σ0 := by
  refine x_met (cc := cX7_foundNothing) (own := RX7) (maxL := 2) (ret := (some .int)) (by decide +kernel) rfl rfl (Nat.le_of_ble_eq_true rfl) hdis (s_StOk aS) s_NwOk (fun p e s m args below meth c B G hr => ?_)
  unfold fX7_foundNothing at hf
  refine x_sub (lv' := [(0, .ref (ad 0)), (1, .int a1)]) [0, 1] rfl ?_
  refine x_aload_n B dX7_foundNothing_0 rfl 0 rfl ?_
  refine x_iconst (v := 0) B dX7_foundNothing_1 (by decide) ?_
  obtain ⟨σ1, u2, hf⟩ := x_ws hf
  refine x_put (v := 0) (ty := .int) (kc := 0) (index := 58) B G.1 iX7_foundNothing_cX7 tyX7 tyX7_ok nmX7 rfl (by decide) s_c0 8 (by decide) iX7_foundNothing_0 rfl rfl rfl rfl (Nat.le_of_ble_eq_true rfl) (s_w7_8 _ _) dX7_foundNothing_2 ?_
  refine x_nm u2 ?_
  refine x_iload_n B dX7_foundNothing_5 rfl 1 rfl ?_
  obtain ⟨rfl, rfl⟩ := x_retI hf
  exact x_iret B hr dX7_foundNothing_6
theorem iX7_row_0 : Cond.constant RX7 70 (-1000001) ∈ wsX7_row := by decide +kernel
theorem iX7_row_1 : Cond.fieldLink RX7 10 "SignDuty" "rows" "LSignDuty$Rows;" ∈ wsX7_row := by decide +kernel
theorem iX7_row_cX7 : ∀ w ∈ u_ws RX7 TX7 9, w ∈ wsX7_row := by decide +kernel
set_option maxRecDepth 100000 in
set_option maxHeartbeats 4000000 in
theorem mX7_row {σ : x_S} {a1 : Int32} {a2 : Int32} {a3 : Int32} (hdis : x_dis s_N ad) (hf : fX7_row a1 a2 a3 σ = some (r0, σ0)) : x_NI l yX7_row wsX7_row 1 D vwCl (s_tys cI cQ cC cZ) s_N (s_C cI cQ cC ad) ad (s_St aS) s_NW [.ref (ad 0), .int a1, .int a2, .int a3] σ r0 σ0 := by
  refine x_met (cc := cX7_row) (own := RX7) (maxL := 4) (ret := (some .int)) (by decide +kernel) rfl rfl (Nat.le_of_ble_eq_true rfl) hdis (s_StOk aS) s_NwOk (fun p e s m args below meth c B G hr => ?_)
  unfold fX7_row at hf
  refine x_sub (lv' := [(0, .ref (ad 0)), (1, .int a1), (2, .int a2), (3, .int a3)]) [0, 1, 2, 3] rfl ?_
  refine x_iload_n B dX7_row_0 rfl 1 rfl ?_
  obtain ⟨r2, e1, hf⟩ := x_ps hf
  refine x_callS (As := [.int a1]) (st := []) B G (mX5_isRow (l := l) G.1.2.1  e1) (va_cwS 1 B.2.2.2.2.1 gX7_row_X5_isRow rfl rfl rfl hdX5_isRow (x_rm_ok (by omega) (by decide))) rfl rfl (Nat.le_of_ble_eq_true rfl) ⟨Nat.zero_le _, Nat.zero_le _⟩ dX7_row_1 ?_
  refine x_if_eq (tgt := 22) B dX7_row_4 (by decide) (fun h3 => ?_) (fun h3 => ?_)
  · replace hf := x_it h3 hf
    refine x_ldc (v := (-1000001)) B iX7_row_0 dX7_row_22 ?_
    obtain ⟨rfl, rfl⟩ := x_retI hf
    exact x_iret B hr dX7_row_24
  · replace hf := x_if h3 hf
    refine x_iload_n B dX7_row_7 rfl 2 rfl ?_
    refine x_iconst (v := 0) B dX7_row_8 (by decide) ?_
    refine x_iconst (v := 2) B dX7_row_9 (by decide) ?_
    obtain ⟨r5, e4, hf⟩ := x_ps hf
    refine x_callS (As := [.int a2, .int 0, .int 2]) (st := []) B G (mX7_isWithin (l := l) G.1.2.1  e4) (va_cwS 3 B.2.2.2.2.1 gX7_row_X7_isWithin rfl rfl rfl hdX7_isWithin (x_rm_ok (by omega) (by decide))) rfl rfl (Nat.le_of_ble_eq_true rfl) ⟨Nat.zero_le _, Nat.zero_le _⟩ dX7_row_10 ?_
    refine x_if_eq (tgt := 22) B dX7_row_13 (by decide) (fun h6 => ?_) (fun h6 => ?_)
    · replace hf := x_it h6 hf
      refine x_ldc (v := (-1000001)) B iX7_row_0 dX7_row_22 ?_
      obtain ⟨rfl, rfl⟩ := x_retI hf
      exact x_iret B hr dX7_row_24
    · replace hf := x_if h6 hf
      refine x_iload_n B dX7_row_16 rfl 3 rfl ?_
      refine x_bipush (v := 40) B dX7_row_17 (by decide) ?_
      refine x_icmp_le (tgt := 25) B dX7_row_19 (by decide) (fun h7 => ?_) (fun h7 => ?_)
      · replace hf := x_it h7 hf
        refine x_iload_n B dX7_row_25 rfl 3 rfl ?_
        refine x_if_ge (tgt := 35) B dX7_row_26 (by decide) (fun h8 => ?_) (fun h8 => ?_)
        · replace hf := x_it h8 hf
          refine x_aload_n B dX7_row_35 rfl 0 rfl ?_
          refine x_get (v := .ref (ad 1)) (kc := 0) (index := 10) B G.1 iX7_row_cX7 rfl (by decide) s_c0 0 (by decide) iX7_row_1 rfl dX7_row_36 ?_
          refine x_iload_n B dX7_row_39 rfl 1 rfl ?_
          refine x_iload_n B dX7_row_40 rfl 2 rfl ?_
          refine x_iload_n B dX7_row_41 rfl 3 rfl ?_
          obtain ⟨σ10, e9, hf⟩ := x_vs hf
          refine x_callVv (As := [.int a1, .int a2, .int a3]) (st := []) B G (mX5_lay (l := l) G.1.2.1  e9) (cwV 3 B.2.2.2.2.1 gX7_row_X5_lay rfl rfl rfl hdX5_lay (x_rm_ok (by omega) (by decide))) (by decide) s_c1 rfl rfl rfl (Nat.le_of_ble_eq_true rfl) ⟨Nat.zero_le _, Nat.zero_le _⟩ dX7_row_42 ?_
          refine x_aload_n B dX7_row_45 rfl 0 rfl ?_
          refine x_iload_n B dX7_row_46 rfl 3 rfl ?_
          obtain ⟨r12, σ13, e11, hf⟩ := x_bs hf
          refine x_callV (As := [.int a3]) (st := []) B G (mX7_foundNothing (l := l) G.1.2.1  e11) (cwV 1 B.2.2.2.2.1 gX7_row_X7_foundNothing rfl rfl rfl hdX7_foundNothing (x_rm_ok (by omega) (by decide))) (by decide) s_c0 rfl rfl rfl (Nat.le_of_ble_eq_true rfl) ⟨Nat.zero_le _, Nat.zero_le _⟩ dX7_row_47 ?_
          obtain ⟨rfl, rfl⟩ := x_retI hf
          exact x_iret B hr dX7_row_50
        · replace hf := x_if h8 hf
          refine x_aload_n B dX7_row_29 rfl 0 rfl ?_
          refine x_iconst (v := 4) B dX7_row_30 (by decide) ?_
          obtain ⟨r15, σ16, e14, hf⟩ := x_bs hf
          refine x_callV (As := [.int 4]) (st := []) B G (mX7_found (l := l) G.1.2.1  e14) (cwV 1 B.2.2.2.2.1 gX7_row_X7_found rfl rfl rfl hdX7_found (x_rm_ok (by omega) (by decide))) (by decide) s_c0 rfl rfl rfl (Nat.le_of_ble_eq_true rfl) ⟨Nat.zero_le _, Nat.zero_le _⟩ dX7_row_31 ?_
          obtain ⟨rfl, rfl⟩ := x_retI hf
          exact x_iret B hr dX7_row_34
      · replace hf := x_if h7 hf
        refine x_ldc (v := (-1000001)) B iX7_row_0 dX7_row_22 ?_
        obtain ⟨rfl, rfl⟩ := x_retI hf
        exact x_iret B hr dX7_row_24
theorem iX7_set_0 : Cond.fieldLink RX7 10 "SignDuty" "rows" "LSignDuty$Rows;" ∈ wsX7_set := by decide +kernel
theorem iX7_set_cX7 : ∀ w ∈ u_ws RX7 TX7 9, w ∈ wsX7_set := by decide +kernel
theorem iX7_set_2 : Cond.constant RX7 70 (-1000001) ∈ wsX7_set := by decide +kernel
set_option maxRecDepth 100000 in
set_option maxHeartbeats 4000000 in
theorem mX7_set {σ : x_S} {a1 : Int32} {a2 : Int32} {a3 : Int32} (hdis : x_dis s_N ad) (hf : fX7_set a1 a2 a3 σ = some (r0, σ0)) : x_NI l yX7_set wsX7_set 2 D vwCl (s_tys cI cQ cC cZ) s_N (s_C cI cQ cC ad) ad (s_St aS) s_NW [.ref (ad 0), .int a1, .int a2, .int a3] σ r0 σ0 := by
  refine x_met (cc := cX7_set) (own := RX7) (maxL := 5) (ret := (some .int)) (by decide +kernel) rfl rfl (Nat.le_of_ble_eq_true rfl) hdis (s_StOk aS) s_NwOk (fun p e s m args below meth c B G hr => ?_)
  unfold fX7_set at hf
  refine x_sub (lv' := [(0, .ref (ad 0)), (1, .int a1), (2, .int a2), (3, .int a3)]) [0, 1, 2, 3] rfl ?_
  refine x_iload_n B dX7_set_0 rfl 1 rfl ?_
  obtain ⟨r2, e1, hf⟩ := x_ps hf
  refine x_callS (As := [.int a1]) (st := []) B G (mX5_isRow (l := l) G.1.2.1  e1) (va_cwS 1 B.2.2.2.2.1 gX7_set_X5_isRow rfl rfl rfl hdX5_isRow (x_rm_ok (by omega) (by decide))) rfl rfl (Nat.le_of_ble_eq_true rfl) ⟨Nat.zero_le _, Nat.zero_le _⟩ dX7_set_1 ?_
  refine x_if_ne (tgt := 10) B dX7_set_4 (by decide) (fun h3 => ?_) (fun h3 => ?_)
  · replace hf := x_if h3 hf
    refine x_aload_n B dX7_set_10 rfl 0 rfl ?_
    refine x_get (v := .ref (ad 1)) (kc := 0) (index := 10) B G.1 iX7_set_cX7 rfl (by decide) s_c0 0 (by decide) iX7_set_0 rfl dX7_set_11 ?_
    refine x_iload_n B dX7_set_14 rfl 1 rfl ?_
    refine x_iload_n B dX7_set_15 rfl 2 rfl ?_
    refine x_iconst (v := 1) B dX7_set_16 (by decide) ?_
    obtain ⟨r5, e4, hf⟩ := x_ps hf
    refine x_callV (As := [.int a1, .int a2, .int 1]) (st := []) B G (mX5_findingOf (l := l) G.1.2.1  e4) (cwV 3 B.2.2.2.2.1 gX7_set_X5_findingOf rfl rfl rfl hdX5_findingOf (x_rm_ok (by omega) (by decide))) (by decide) s_c1 rfl rfl rfl (Nat.le_of_ble_eq_true rfl) ⟨Nat.zero_le _, Nat.zero_le _⟩ dX7_set_17 ?_
    refine x_istore (lv' := [(4, .int r5), (0, .ref (ad 0)), (1, .int a1), (2, .int a2), (3, .int a3)]) B dX7_set_20 (by decide) rfl ?_
    refine x_iload B dX7_set_22 0 rfl ?_
    refine x_if_eq (tgt := 34) B dX7_set_24 (by decide) (fun h6 => ?_) (fun h6 => ?_)
    · replace hf := x_it h6 hf
      refine x_aload_n B dX7_set_34 rfl 1 rfl ?_
      refine x_aload_n B dX7_set_35 rfl 1 rfl ?_
      refine x_get (v := .ref (ad 1)) (kc := 0) (index := 10) B G.1 iX7_set_cX7 rfl (by decide) s_c0 0 (by decide) iX7_set_0 rfl dX7_set_36 ?_
      refine x_iload_n B dX7_set_39 rfl 2 rfl ?_
      refine x_iload_n B dX7_set_40 rfl 3 rfl ?_
      refine x_iload_n B dX7_set_41 rfl 4 rfl ?_
      obtain ⟨r8, σ9, e7, hf⟩ := x_bs hf
      refine x_callV (As := [.int a1, .int a2, .int a3]) (st := [.ref (ad 0)]) B G (mX5_put (l := l) G.1.2.1  e7) (cwV 3 B.2.2.2.2.1 gX7_set_X5_put rfl rfl rfl hdX5_put (x_rm_ok (by omega) (by decide))) (by decide) s_c1 rfl rfl rfl (Nat.le_of_ble_eq_true rfl) ⟨Nat.zero_le _, Nat.zero_le _⟩ dX7_set_42 ?_
      obtain ⟨r11, σ12, e10, hf⟩ := x_bs hf
      refine x_callV (As := [.int r8]) (st := []) B G (mX7_foundNothing (l := l) G.1.2.1  e10) (cwV 1 B.2.2.2.2.1 gX7_set_X7_foundNothing rfl rfl rfl hdX7_foundNothing (x_rm_ok (by omega) (by decide))) (by decide) s_c0 rfl rfl rfl (Nat.le_of_ble_eq_true rfl) ⟨Nat.zero_le _, Nat.zero_le _⟩ dX7_set_45 ?_
      obtain ⟨rfl, rfl⟩ := x_retI hf
      exact x_iret B hr dX7_set_48
    · replace hf := x_if h6 hf
      refine x_aload_n B dX7_set_27 rfl 1 rfl ?_
      refine x_iload B dX7_set_28 0 rfl ?_
      obtain ⟨r14, σ15, e13, hf⟩ := x_bs hf
      refine x_callV (As := [.int r5]) (st := []) B G (mX7_found (l := l) G.1.2.1  e13) (cwV 1 B.2.2.2.2.1 gX7_set_X7_found rfl rfl rfl hdX7_found (x_rm_ok (by omega) (by decide))) (by decide) s_c0 rfl rfl rfl (Nat.le_of_ble_eq_true rfl) ⟨Nat.zero_le _, Nat.zero_le _⟩ dX7_set_30 ?_
      obtain ⟨rfl, rfl⟩ := x_retI hf
      exact x_iret B hr dX7_set_33
  · replace hf := x_it h3 hf
    refine x_ldc (v := (-1000001)) B iX7_set_2 dX7_set_7 ?_
    obtain ⟨rfl, rfl⟩ := x_retI hf
    exact x_iret B hr dX7_set_9
theorem iX7_copy_0 : Cond.constant RX7 70 (-1000001) ∈ wsX7_copy := by decide +kernel
theorem iX7_copy_1 : Cond.fieldLink RX7 10 "SignDuty" "rows" "LSignDuty$Rows;" ∈ wsX7_copy := by decide +kernel
theorem iX7_copy_cX7 : ∀ w ∈ u_ws RX7 TX7 9, w ∈ wsX7_copy := by decide +kernel
set_option maxRecDepth 100000 in
set_option maxHeartbeats 4000000 in
theorem kX7_copy_39 {σ : x_S} (B : x_B p s m args meth c cX7_copy 6 wsX7_copy RX7) (G : x_H s D vwCl (s_tys cI cQ cC cZ) s_N ad (x_A s_N ad) (s_St aS) s_NW) (hr : meth.sig.returnType = (some .int)) (hf : bX7_copy_39   σ = some (r0, σ0)) : x_J p l e (x_rm 2) s m args below meth c 0 0 (MQ below (x_Qi D vwCl s_N (s_C cI cQ cC ad) ad r0 σ0) args s 0 0 (x_A s_N ad)) (x_A s_N ad) 6 (x_I D vwCl s_N (s_C cI cQ cC ad) ad σ) [(0, .ref (ad 0))] [] 39 := by
  unfold bX7_copy_39 at hf
  refine x_aload_n B dX7_copy_39 rfl 0 rfl ?_
  refine x_iconst (v := 1) B dX7_copy_40 (by decide) ?_
  obtain ⟨r2, σ3, e1, hf⟩ := x_bs hf
  refine x_callV (As := [.int 1]) (st := []) B G (mX7_found (l := l) G.1.2.1  e1) (cwV 1 B.2.2.2.2.1 gX7_copy_X7_found rfl rfl rfl hdX7_found (x_rm_ok (by omega) (by decide))) (by decide) s_c0 rfl rfl rfl (Nat.le_of_ble_eq_true rfl) ⟨Nat.zero_le _, Nat.zero_le _⟩ dX7_copy_41 ?_
  obtain ⟨rfl, rfl⟩ := x_retI hf
  exact x_iret B hr dX7_copy_44
set_option maxRecDepth 100000 in
set_option maxHeartbeats 4000000 in
theorem kX7_copy_92 {σ : x_S} (B : x_B p s m args meth c cX7_copy 6 wsX7_copy RX7) (G : x_H s D vwCl (s_tys cI cQ cC cZ) s_N ad (x_A s_N ad) (s_St aS) s_NW) (hr : meth.sig.returnType = (some .int)) (hf : bX7_copy_92   σ = some (r0, σ0)) : x_J p l e (x_rm 2) s m args below meth c 0 0 (MQ below (x_Qi D vwCl s_N (s_C cI cQ cC ad) ad r0 σ0) args s 0 0 (x_A s_N ad)) (x_A s_N ad) 6 (x_I D vwCl s_N (s_C cI cQ cC ad) ad σ) [(0, .ref (ad 0))] [] 92 := by
  unfold bX7_copy_92 at hf
  refine x_aload_n B dX7_copy_92 rfl 0 rfl ?_
  refine x_iconst (v := 2) B dX7_copy_93 (by decide) ?_
  obtain ⟨r2, σ3, e1, hf⟩ := x_bs hf
  refine x_callV (As := [.int 2]) (st := []) B G (mX7_found (l := l) G.1.2.1  e1) (cwV 1 B.2.2.2.2.1 gX7_copy_X7_found rfl rfl rfl hdX7_found (x_rm_ok (by omega) (by decide))) (by decide) s_c0 rfl rfl rfl (Nat.le_of_ble_eq_true rfl) ⟨Nat.zero_le _, Nat.zero_le _⟩ dX7_copy_94 ?_
  obtain ⟨rfl, rfl⟩ := x_retI hf
  exact x_iret B hr dX7_copy_97
set_option maxRecDepth 100000 in
set_option maxHeartbeats 4000000 in
theorem mX7_copy {σ : x_S} {a1 : Int32} {a2 : Int32} {a3 : Int32} {a4 : Int32} {a5 : Int32} (hdis : x_dis s_N ad) (hf : fX7_copy a1 a2 a3 a4 a5 σ = some (r0, σ0)) : x_NI l yX7_copy wsX7_copy 2 D vwCl (s_tys cI cQ cC cZ) s_N (s_C cI cQ cC ad) ad (s_St aS) s_NW [.ref (ad 0), .int a1, .int a2, .int a3, .int a4, .int a5] σ r0 σ0 := by
  refine x_met (cc := cX7_copy) (own := RX7) (maxL := 6) (ret := (some .int)) (by decide +kernel) rfl rfl (Nat.le_of_ble_eq_true rfl) hdis (s_StOk aS) s_NwOk (fun p e s m args below meth c B G hr => ?_)
  unfold fX7_copy at hf
  refine x_sub (lv' := [(0, .ref (ad 0)), (1, .int a1), (2, .int a2), (3, .int a3), (4, .int a4), (5, .int a5)]) [0, 1, 2, 3, 4, 5] rfl ?_
  refine x_iload_n B dX7_copy_0 rfl 1 rfl ?_
  obtain ⟨r2, e1, hf⟩ := x_ps hf
  refine x_callS (As := [.int a1]) (st := []) B G (mX5_isRow (l := l) G.1.2.1  e1) (va_cwS 1 B.2.2.2.2.1 gX7_copy_X5_isRow rfl rfl rfl hdX5_isRow (x_rm_ok (by omega) (by decide))) rfl rfl (Nat.le_of_ble_eq_true rfl) ⟨Nat.zero_le _, Nat.zero_le _⟩ dX7_copy_1 ?_
  refine x_if_eq (tgt := 14) B dX7_copy_4 (by decide) (fun h3 => ?_) (fun h3 => ?_)
  · replace hf := x_it h3 hf
    refine x_ldc (v := (-1000001)) B iX7_copy_0 dX7_copy_14 ?_
    obtain ⟨rfl, rfl⟩ := x_retI hf
    exact x_iret B hr dX7_copy_16
  · replace hf := x_if h3 hf
    refine x_iload_n B dX7_copy_7 rfl 3 rfl ?_
    obtain ⟨r5, e4, hf⟩ := x_ps hf
    refine x_callS (As := [.int a3]) (st := []) B G (mX5_isRow (l := l) G.1.2.1  e4) (va_cwS 1 B.2.2.2.2.1 gX7_copy_X5_isRow rfl rfl rfl hdX5_isRow (x_rm_ok (by omega) (by decide))) rfl rfl (Nat.le_of_ble_eq_true rfl) ⟨Nat.zero_le _, Nat.zero_le _⟩ dX7_copy_8 ?_
    refine x_if_ne (tgt := 17) B dX7_copy_11 (by decide) (fun h6 => ?_) (fun h6 => ?_)
    · replace hf := x_if h6 hf
      refine x_aload_n B dX7_copy_17 rfl 0 rfl ?_
      refine x_get (v := .ref (ad 1)) (kc := 0) (index := 10) B G.1 iX7_copy_cX7 rfl (by decide) s_c0 0 (by decide) iX7_copy_1 rfl dX7_copy_18 ?_
      refine x_iload_n B dX7_copy_21 rfl 1 rfl ?_
      obtain ⟨r8, e7, hf⟩ := x_ps hf
      refine x_callV (As := [.int a1]) (st := []) B G (mX5_isMissing (l := l) G.1.2.1  e7) (cwV 1 B.2.2.2.2.1 gX7_copy_X5_isMissing rfl rfl rfl hdX5_isMissing (x_rm_ok (by omega) (by decide))) (by decide) s_c1 rfl rfl rfl (Nat.le_of_ble_eq_true rfl) ⟨Nat.zero_le _, Nat.zero_le _⟩ dX7_copy_22 ?_
      refine x_if_ne (tgt := 39) B dX7_copy_25 (by decide) (fun h9 => ?_) (fun h9 => ?_)
      · replace hf := x_if h9 hf
        refine x_sub [0] rfl ?_
        exact kX7_copy_39 B G hr hf
      · replace hf := x_it h9 hf
        refine x_aload_n B dX7_copy_28 rfl 0 rfl ?_
        refine x_get (v := .ref (ad 1)) (kc := 0) (index := 10) B G.1 iX7_copy_cX7 rfl (by decide) s_c0 0 (by decide) iX7_copy_1 rfl dX7_copy_29 ?_
        refine x_iload_n B dX7_copy_32 rfl 3 rfl ?_
        obtain ⟨r11, e10, hf⟩ := x_ps hf
        refine x_callV (As := [.int a3]) (st := []) B G (mX5_isMissing (l := l) G.1.2.1  e10) (cwV 1 B.2.2.2.2.1 gX7_copy_X5_isMissing rfl rfl rfl hdX5_isMissing (x_rm_ok (by omega) (by decide))) (by decide) s_c1 rfl rfl rfl (Nat.le_of_ble_eq_true rfl) ⟨Nat.zero_le _, Nat.zero_le _⟩ dX7_copy_33 ?_
        refine x_if_eq (tgt := 45) B dX7_copy_36 (by decide) (fun h12 => ?_) (fun h12 => ?_)
        · replace hf := x_it h12 hf
          refine x_aload_n B dX7_copy_45 rfl 0 rfl ?_
          refine x_get (v := .ref (ad 1)) (kc := 0) (index := 10) B G.1 iX7_copy_cX7 rfl (by decide) s_c0 0 (by decide) iX7_copy_1 rfl dX7_copy_46 ?_
          refine x_iload_n B dX7_copy_49 rfl 1 rfl ?_
          refine x_iload_n B dX7_copy_50 rfl 3 rfl ?_
          obtain ⟨r14, e13, hf⟩ := x_ps hf
          refine x_callV (As := [.int a1, .int a3]) (st := []) B G (mX5_areAlike (l := l) G.1.2.1  e13) (cwV 2 B.2.2.2.2.1 gX7_copy_X5_areAlike rfl rfl rfl hdX5_areAlike (x_rm_ok (by omega) (by decide))) (by decide) s_c1 rfl rfl rfl (Nat.le_of_ble_eq_true rfl) ⟨Nat.zero_le _, Nat.zero_le _⟩ dX7_copy_51 ?_
          refine x_if_ne (tgt := 63) B dX7_copy_54 (by decide) (fun h15 => ?_) (fun h15 => ?_)
          · replace hf := x_if h15 hf
            refine x_aload_n B dX7_copy_63 rfl 0 rfl ?_
            refine x_get (v := .ref (ad 1)) (kc := 0) (index := 10) B G.1 iX7_copy_cX7 rfl (by decide) s_c0 0 (by decide) iX7_copy_1 rfl dX7_copy_64 ?_
            refine x_iload_n B dX7_copy_67 rfl 1 rfl ?_
            refine x_iload_n B dX7_copy_68 rfl 2 rfl ?_
            refine x_iload B dX7_copy_69 5 rfl ?_
            obtain ⟨r17, e16, hf⟩ := x_ps hf
            refine x_callV (As := [.int a1, .int a2, .int a5]) (st := []) B G (mX5_reaches (l := l) G.1.2.1  e16) (cwV 3 B.2.2.2.2.1 gX7_copy_X5_reaches rfl rfl rfl hdX5_reaches (x_rm_ok (by omega) (by decide))) (by decide) s_c1 rfl rfl rfl (Nat.le_of_ble_eq_true rfl) ⟨Nat.zero_le _, Nat.zero_le _⟩ dX7_copy_71 ?_
            refine x_if_eq (tgt := 92) B dX7_copy_74 (by decide) (fun h18 => ?_) (fun h18 => ?_)
            · replace hf := x_it h18 hf
              refine x_sub [0] rfl ?_
              exact kX7_copy_92 B G hr hf
            · replace hf := x_if h18 hf
              refine x_aload_n B dX7_copy_77 rfl 0 rfl ?_
              refine x_get (v := .ref (ad 1)) (kc := 0) (index := 10) B G.1 iX7_copy_cX7 rfl (by decide) s_c0 0 (by decide) iX7_copy_1 rfl dX7_copy_78 ?_
              refine x_iload_n B dX7_copy_81 rfl 3 rfl ?_
              refine x_iload B dX7_copy_82 4 rfl ?_
              refine x_iload B dX7_copy_84 5 rfl ?_
              obtain ⟨r20, e19, hf⟩ := x_ps hf
              refine x_callV (As := [.int a3, .int a4, .int a5]) (st := []) B G (mX5_reaches (l := l) G.1.2.1  e19) (cwV 3 B.2.2.2.2.1 gX7_copy_X5_reaches rfl rfl rfl hdX5_reaches (x_rm_ok (by omega) (by decide))) (by decide) s_c1 rfl rfl rfl (Nat.le_of_ble_eq_true rfl) ⟨Nat.zero_le _, Nat.zero_le _⟩ dX7_copy_86 ?_
              refine x_if_ne (tgt := 98) B dX7_copy_89 (by decide) (fun h21 => ?_) (fun h21 => ?_)
              · replace hf := x_if h21 hf
                refine x_aload_n B dX7_copy_98 rfl 0 rfl ?_
                refine x_get (v := .ref (ad 1)) (kc := 0) (index := 10) B G.1 iX7_copy_cX7 rfl (by decide) s_c0 0 (by decide) iX7_copy_1 rfl dX7_copy_99 ?_
                refine x_iload_n B dX7_copy_102 rfl 1 rfl ?_
                refine x_iload_n B dX7_copy_103 rfl 2 rfl ?_
                refine x_iload_n B dX7_copy_104 rfl 3 rfl ?_
                refine x_iload B dX7_copy_105 4 rfl ?_
                refine x_iload B dX7_copy_107 5 rfl ?_
                obtain ⟨σ23, e22, hf⟩ := x_vs hf
                refine x_callVv (As := [.int a1, .int a2, .int a3, .int a4, .int a5]) (st := []) B G (mX5_carry (l := l) G.1.2.1  e22) (cwV 5 B.2.2.2.2.1 gX7_copy_X5_carry rfl rfl rfl hdX5_carry (x_rm_ok (by omega) (by decide))) (by decide) s_c1 rfl rfl rfl (Nat.le_of_ble_eq_true rfl) ⟨Nat.zero_le _, Nat.zero_le _⟩ dX7_copy_109 ?_
                refine x_aload_n B dX7_copy_112 rfl 0 rfl ?_
                refine x_iload B dX7_copy_113 5 rfl ?_
                obtain ⟨r25, σ26, e24, hf⟩ := x_bs hf
                refine x_callV (As := [.int a5]) (st := []) B G (mX7_foundNothing (l := l) G.1.2.1  e24) (cwV 1 B.2.2.2.2.1 gX7_copy_X7_foundNothing rfl rfl rfl hdX7_foundNothing (x_rm_ok (by omega) (by decide))) (by decide) s_c0 rfl rfl rfl (Nat.le_of_ble_eq_true rfl) ⟨Nat.zero_le _, Nat.zero_le _⟩ dX7_copy_115 ?_
                obtain ⟨rfl, rfl⟩ := x_retI hf
                exact x_iret B hr dX7_copy_118
              · replace hf := x_it h21 hf
                refine x_sub [0] rfl ?_
                exact kX7_copy_92 B G hr hf
          · replace hf := x_it h15 hf
            refine x_aload_n B dX7_copy_57 rfl 0 rfl ?_
            refine x_iconst (v := 5) B dX7_copy_58 (by decide) ?_
            obtain ⟨r28, σ29, e27, hf⟩ := x_bs hf
            refine x_callV (As := [.int 5]) (st := []) B G (mX7_found (l := l) G.1.2.1  e27) (cwV 1 B.2.2.2.2.1 gX7_copy_X7_found rfl rfl rfl hdX7_found (x_rm_ok (by omega) (by decide))) (by decide) s_c0 rfl rfl rfl (Nat.le_of_ble_eq_true rfl) ⟨Nat.zero_le _, Nat.zero_le _⟩ dX7_copy_59 ?_
            obtain ⟨rfl, rfl⟩ := x_retI hf
            exact x_iret B hr dX7_copy_62
        · replace hf := x_if h12 hf
          refine x_sub [0] rfl ?_
          exact kX7_copy_39 B G hr hf
    · replace hf := x_it h6 hf
      refine x_ldc (v := (-1000001)) B iX7_copy_0 dX7_copy_14 ?_
      obtain ⟨rfl, rfl⟩ := x_retI hf
      exact x_iret B hr dX7_copy_16
theorem iX7_drop_0 : Cond.fieldLink RX7 10 "SignDuty" "rows" "LSignDuty$Rows;" ∈ wsX7_drop := by decide +kernel
theorem iX7_drop_cX7 : ∀ w ∈ u_ws RX7 TX7 9, w ∈ wsX7_drop := by decide +kernel
theorem iX7_drop_2 : Cond.constant RX7 70 (-1000001) ∈ wsX7_drop := by decide +kernel
set_option maxRecDepth 100000 in
set_option maxHeartbeats 4000000 in
theorem mX7_drop {σ : x_S} {a1 : Int32} (hdis : x_dis s_N ad) (hf : fX7_drop a1 σ = some (r0, σ0)) : x_NI l yX7_drop wsX7_drop 1 D vwCl (s_tys cI cQ cC cZ) s_N (s_C cI cQ cC ad) ad (s_St aS) s_NW [.ref (ad 0), .int a1] σ r0 σ0 := by
  refine x_met (cc := cX7_drop) (own := RX7) (maxL := 2) (ret := (some .int)) (by decide +kernel) rfl rfl (Nat.le_of_ble_eq_true rfl) hdis (s_StOk aS) s_NwOk (fun p e s m args below meth c B G hr => ?_)
  unfold fX7_drop at hf
  refine x_sub (lv' := [(0, .ref (ad 0)), (1, .int a1)]) [0, 1] rfl ?_
  refine x_iload_n B dX7_drop_0 rfl 1 rfl ?_
  obtain ⟨r2, e1, hf⟩ := x_ps hf
  refine x_callS (As := [.int a1]) (st := []) B G (mX5_isRow (l := l) G.1.2.1  e1) (va_cwS 1 B.2.2.2.2.1 gX7_drop_X5_isRow rfl rfl rfl hdX5_isRow (x_rm_ok (by omega) (by decide))) rfl rfl (Nat.le_of_ble_eq_true rfl) ⟨Nat.zero_le _, Nat.zero_le _⟩ dX7_drop_1 ?_
  refine x_if_ne (tgt := 10) B dX7_drop_4 (by decide) (fun h3 => ?_) (fun h3 => ?_)
  · replace hf := x_if h3 hf
    refine x_aload_n B dX7_drop_10 rfl 0 rfl ?_
    refine x_get (v := .ref (ad 1)) (kc := 0) (index := 10) B G.1 iX7_drop_cX7 rfl (by decide) s_c0 0 (by decide) iX7_drop_0 rfl dX7_drop_11 ?_
    refine x_iload_n B dX7_drop_14 rfl 1 rfl ?_
    obtain ⟨r5, e4, hf⟩ := x_ps hf
    refine x_callV (As := [.int a1]) (st := []) B G (mX5_isMissing (l := l) G.1.2.1  e4) (cwV 1 B.2.2.2.2.1 gX7_drop_X5_isMissing rfl rfl rfl hdX5_isMissing (x_rm_ok (by omega) (by decide))) (by decide) s_c1 rfl rfl rfl (Nat.le_of_ble_eq_true rfl) ⟨Nat.zero_le _, Nat.zero_le _⟩ dX7_drop_15 ?_
    refine x_if_eq (tgt := 27) B dX7_drop_18 (by decide) (fun h6 => ?_) (fun h6 => ?_)
    · replace hf := x_it h6 hf
      refine x_aload_n B dX7_drop_27 rfl 0 rfl ?_
      refine x_aload_n B dX7_drop_28 rfl 0 rfl ?_
      refine x_get (v := .ref (ad 1)) (kc := 0) (index := 10) B G.1 iX7_drop_cX7 rfl (by decide) s_c0 0 (by decide) iX7_drop_0 rfl dX7_drop_29 ?_
      refine x_iload_n B dX7_drop_32 rfl 1 rfl ?_
      obtain ⟨r8, σ9, e7, hf⟩ := x_bs hf
      refine x_callV (As := [.int a1]) (st := [.ref (ad 0)]) B G (mX5_takeAway (l := l) G.1.2.1  e7) (cwV 1 B.2.2.2.2.1 gX7_drop_X5_takeAway rfl rfl rfl hdX5_takeAway (x_rm_ok (by omega) (by decide))) (by decide) s_c1 rfl rfl rfl (Nat.le_of_ble_eq_true rfl) ⟨Nat.zero_le _, Nat.zero_le _⟩ dX7_drop_33 ?_
      obtain ⟨r11, σ12, e10, hf⟩ := x_bs hf
      refine x_callV (As := [.int r8]) (st := []) B G (mX7_foundNothing (l := l) G.1.2.1  e10) (cwV 1 B.2.2.2.2.1 gX7_drop_X7_foundNothing rfl rfl rfl hdX7_foundNothing (x_rm_ok (by omega) (by decide))) (by decide) s_c0 rfl rfl rfl (Nat.le_of_ble_eq_true rfl) ⟨Nat.zero_le _, Nat.zero_le _⟩ dX7_drop_36 ?_
      obtain ⟨rfl, rfl⟩ := x_retI hf
      exact x_iret B hr dX7_drop_39
    · replace hf := x_if h6 hf
      refine x_aload_n B dX7_drop_21 rfl 0 rfl ?_
      refine x_iconst (v := 1) B dX7_drop_22 (by decide) ?_
      obtain ⟨r14, σ15, e13, hf⟩ := x_bs hf
      refine x_callV (As := [.int 1]) (st := []) B G (mX7_found (l := l) G.1.2.1  e13) (cwV 1 B.2.2.2.2.1 gX7_drop_X7_found rfl rfl rfl hdX7_found (x_rm_ok (by omega) (by decide))) (by decide) s_c0 rfl rfl rfl (Nat.le_of_ble_eq_true rfl) ⟨Nat.zero_le _, Nat.zero_le _⟩ dX7_drop_23 ?_
      obtain ⟨rfl, rfl⟩ := x_retI hf
      exact x_iret B hr dX7_drop_26
  · replace hf := x_it h3 hf
    refine x_ldc (v := (-1000001)) B iX7_drop_2 dX7_drop_7 ?_
    obtain ⟨rfl, rfl⟩ := x_retI hf
    exact x_iret B hr dX7_drop_9
theorem iX7_feed_0 : Cond.fieldLink RX7 19 "SignDuty" "reader" "LSignDuty$Reader;" ∈ wsX7_feed := by decide +kernel
theorem iX7_feed_cX7 : ∀ w ∈ u_ws RX7 TX7 9, w ∈ wsX7_feed := by decide +kernel
theorem iX7_feed_2 : Cond.constant RX7 110 (-1000003) ∈ wsX7_feed := by decide +kernel
theorem iX7_feed_3 : Cond.constant RX7 70 (-1000001) ∈ wsX7_feed := by decide +kernel
set_option maxRecDepth 100000 in
set_option maxHeartbeats 4000000 in
theorem mX7_feed {σ : x_S} {a1 : Int32} (hdis : x_dis s_N ad) (hf : fX7_feed a1 σ = some (r0, σ0)) : x_NI l yX7_feed wsX7_feed 2 D vwCl (s_tys cI cQ cC cZ) s_N (s_C cI cQ cC ad) ad (s_St aS) s_NW [.ref (ad 0), .int a1] σ r0 σ0 := by
  refine x_met (cc := cX7_feed) (own := RX7) (maxL := 2) (ret := (some .int)) (by decide +kernel) rfl rfl (Nat.le_of_ble_eq_true rfl) hdis (s_StOk aS) s_NwOk (fun p e s m args below meth c B G hr => ?_)
  unfold fX7_feed at hf
  refine x_sub (lv' := [(0, .ref (ad 0)), (1, .int a1)]) [0, 1] rfl ?_
  refine x_iload_n B dX7_feed_0 rfl 1 rfl ?_
  refine x_iconst (v := 0) B dX7_feed_1 (by decide) ?_
  refine x_sipush (v := 255) B dX7_feed_2 (by decide) ?_
  obtain ⟨r2, e1, hf⟩ := x_ps hf
  refine x_callS (As := [.int a1, .int 0, .int 255]) (st := []) B G (mX7_isWithin (l := l) G.1.2.1  e1) (va_cwS 3 B.2.2.2.2.1 gX7_feed_X7_isWithin rfl rfl rfl hdX7_isWithin (x_rm_ok (by omega) (by decide))) rfl rfl (Nat.le_of_ble_eq_true rfl) ⟨Nat.zero_le _, Nat.zero_le _⟩ dX7_feed_5 ?_
  refine x_if_ne (tgt := 14) B dX7_feed_8 (by decide) (fun h3 => ?_) (fun h3 => ?_)
  · replace hf := x_if h3 hf
    refine x_aload_n B dX7_feed_14 rfl 0 rfl ?_
    refine x_get (v := .ref (ad 13)) (kc := 0) (index := 19) B G.1 iX7_feed_cX7 rfl (by decide) s_c0 1 (by decide) iX7_feed_0 rfl dX7_feed_15 ?_
    obtain ⟨r5, e4, hf⟩ := x_ps hf
    refine x_callV (As := []) (st := []) B G (mX4_isFull (l := l) G.1.2.1  e4) (cwV 0 B.2.2.2.2.1 gX7_feed_X4_isFull rfl rfl rfl hdX4_isFull (x_rm_ok (by omega) (by decide))) (by decide) s_c13 rfl rfl rfl (Nat.le_of_ble_eq_true rfl) ⟨Nat.zero_le _, Nat.zero_le _⟩ dX7_feed_18 ?_
    refine x_if_eq (tgt := 29) B dX7_feed_21 (by decide) (fun h6 => ?_) (fun h6 => ?_)
    · replace hf := x_it h6 hf
      refine x_aload_n B dX7_feed_29 rfl 0 rfl ?_
      refine x_get (v := .ref (ad 13)) (kc := 0) (index := 19) B G.1 iX7_feed_cX7 rfl (by decide) s_c0 1 (by decide) iX7_feed_0 rfl dX7_feed_30 ?_
      refine x_iload_n B dX7_feed_33 rfl 1 rfl ?_
      obtain ⟨r8, σ9, e7, hf⟩ := x_bs hf
      refine x_callV (As := [.int a1]) (st := []) B G (mX4_append (l := l) G.1.2.1  e7) (cwV 1 B.2.2.2.2.1 gX7_feed_X4_append rfl rfl rfl hdX4_append (x_rm_ok (by omega) (by decide))) (by decide) s_c13 rfl rfl rfl (Nat.le_of_ble_eq_true rfl) ⟨Nat.zero_le _, Nat.zero_le _⟩ dX7_feed_34 ?_
      obtain ⟨rfl, rfl⟩ := x_retI hf
      exact x_iret B hr dX7_feed_37
    · replace hf := x_if h6 hf
      refine x_ldc (v := (-1000003)) B iX7_feed_2 dX7_feed_24 ?_
      refine x_goto (tgt := 37) B dX7_feed_26 (by decide) ?_
      obtain ⟨rfl, rfl⟩ := x_retI hf
      exact x_iret B hr dX7_feed_37
  · replace hf := x_it h3 hf
    refine x_ldc (v := (-1000001)) B iX7_feed_3 dX7_feed_11 ?_
    obtain ⟨rfl, rfl⟩ := x_retI hf
    exact x_iret B hr dX7_feed_13
theorem iX7_city_0 : Cond.fieldLink RX7 19 "SignDuty" "reader" "LSignDuty$Reader;" ∈ wsX7_city := by decide +kernel
theorem iX7_city_cX7 : ∀ w ∈ u_ws RX7 TX7 9, w ∈ wsX7_city := by decide +kernel
theorem iX7_city_2 : Cond.fieldLink RX7 30 "SignDuty" "draft" "LSignDuty$City;" ∈ wsX7_city := by decide +kernel
theorem iX7_city_3 : Cond.fieldLink RX7 26 "SignDuty" "city" "LSignDuty$City;" ∈ wsX7_city := by decide +kernel
theorem iX7_city_4 : Cond.fieldLink RX7 40 "SignDuty" "acts" "LSignDuty$Acts;" ∈ wsX7_city := by decide +kernel
theorem iX7_city_5 : Cond.fieldLink RX7 129 "SignDuty$City" "gestures" "I" ∈ wsX7_city := by decide +kernel
theorem iX7_city_cX2 : ∀ w ∈ u_ws RX2 TX2 13, w ∈ wsX7_city := by decide +kernel
theorem iX7_city_7 : Cond.constant RX7 118 (-1000100) ∈ wsX7_city := by decide +kernel
theorem iX7_city_8 : Cond.fieldLink RX7 119 "SignDuty$Reader" "faultPlace" "I" ∈ wsX7_city := by decide +kernel
theorem iX7_city_cX4 : ∀ w ∈ u_ws RX4 TX4 6, w ∈ wsX7_city := by decide +kernel
set_option maxRecDepth 100000 in
set_option maxHeartbeats 4000000 in
theorem mX7_city {σ : x_S} (hdis : x_dis s_N ad) (hf : fX7_city  σ = some (r0, σ0)) : x_NI l yX7_city wsX7_city 5 D vwCl (s_tys cI cQ cC cZ) s_N (s_C cI cQ cC ad) ad (s_St aS) s_NW [.ref (ad 0)] σ r0 σ0 := by
  refine x_met (cc := cX7_city) (own := RX7) (maxL := 1) (ret := (some .int)) (by decide +kernel) rfl rfl (Nat.le_of_ble_eq_true rfl) hdis (s_StOk aS) s_NwOk (fun p e s m args below meth c B G hr => ?_)
  unfold fX7_city at hf
  refine x_sub (lv' := [(0, .ref (ad 0))]) [0] rfl ?_
  refine x_aload_n B dX7_city_0 rfl 0 rfl ?_
  refine x_get (v := .ref (ad 13)) (kc := 0) (index := 19) B G.1 iX7_city_cX7 rfl (by decide) s_c0 1 (by decide) iX7_city_0 rfl dX7_city_1 ?_
  refine x_aload_n B dX7_city_4 rfl 0 rfl ?_
  refine x_get (v := .ref (ad 40)) (kc := 0) (index := 30) B G.1 iX7_city_cX7 rfl (by decide) s_c0 3 (by decide) iX7_city_2 rfl dX7_city_5 ?_
  obtain ⟨r2, σ3, e1, hf⟩ := x_bs hf
  refine x_callV (As := [.ref (ad 40)]) (st := []) B G (mX4_reads (l := l) G.1.2.1 s_iC40 e1) (cwV 1 B.2.2.2.2.1 gX7_city_X4_reads rfl rfl rfl hdX4_reads (x_rm_ok (by omega) (by decide))) (by decide) s_c13 rfl rfl rfl (Nat.le_of_ble_eq_true rfl) ⟨Nat.zero_le _, Nat.zero_le _⟩ dX7_city_8 ?_
  refine x_if_ne (tgt := 25) B dX7_city_11 (by decide) (fun h4 => ?_) (fun h4 => ?_)
  · replace hf := x_if h4 hf
    refine x_aload_n B dX7_city_25 rfl 0 rfl ?_
    refine x_get (v := .ref (ad 32)) (kc := 0) (index := 26) B G.1 iX7_city_cX7 rfl (by decide) s_c0 2 (by decide) iX7_city_3 rfl dX7_city_26 ?_
    refine x_aload_n B dX7_city_29 rfl 0 rfl ?_
    refine x_get (v := .ref (ad 40)) (kc := 0) (index := 30) B G.1 iX7_city_cX7 rfl (by decide) s_c0 3 (by decide) iX7_city_2 rfl dX7_city_30 ?_
    obtain ⟨σ6, e5, hf⟩ := x_vs hf
    refine x_callVv (As := [.ref (ad 40)]) (st := []) B G (mX2_become (l := l) G.1.2.1 s_iC32 s_iC40 e5) (cwV 1 B.2.2.2.2.1 gX7_city_X2_become rfl rfl rfl hdX2_become (x_rm_ok (by omega) (by decide))) (s_kC s_iC32) (s_cC s_iC32) rfl rfl rfl (Nat.le_of_ble_eq_true rfl) ⟨Nat.zero_le _, Nat.zero_le _⟩ dX7_city_33 ?_
    refine x_aload_n B dX7_city_36 rfl 0 rfl ?_
    refine x_get (v := .ref (ad 16)) (kc := 0) (index := 40) B G.1 iX7_city_cX7 rfl (by decide) s_c0 5 (by decide) iX7_city_4 rfl dX7_city_37 ?_
    obtain ⟨σ8, e7, hf⟩ := x_vs hf
    refine x_callVv (As := []) (st := []) B G (mX0_forgetAll (l := l) G.1.2.1  e7) (cwV 0 B.2.2.2.2.1 gX7_city_X0_forgetAll rfl rfl rfl hdX0_forgetAll (x_rm_ok (by omega) (by decide))) (by decide) s_c16 rfl rfl rfl (Nat.le_of_ble_eq_true rfl) ⟨Nat.zero_le _, Nat.zero_le _⟩ dX7_city_40 ?_
    refine x_aload_n B dX7_city_43 rfl 0 rfl ?_
    refine x_get (v := .ref (ad 32)) (kc := 0) (index := 26) B G.1 iX7_city_cX7 rfl (by decide) s_c0 2 (by decide) iX7_city_3 rfl dX7_city_44 ?_
    refine x_get (v := .int (σ8 32 5)) (kc := 32) (index := 129) B G.1 iX7_city_cX2 rfl (s_kC s_iC32) (s_cC s_iC32) 5 (by decide) iX7_city_5 rfl dX7_city_47 ?_
    obtain ⟨rfl, rfl⟩ := x_retI hf
    exact x_iret B hr dX7_city_50
  · replace hf := x_it h4 hf
    refine x_ldc (v := (-1000100)) B iX7_city_7 dX7_city_14 ?_
    refine x_aload_n B dX7_city_16 rfl 0 rfl ?_
    refine x_get (v := .ref (ad 13)) (kc := 0) (index := 19) B G.1 iX7_city_cX7 rfl (by decide) s_c0 1 (by decide) iX7_city_0 rfl dX7_city_17 ?_
    refine x_get (v := .int (σ3 13 3)) (kc := 13) (index := 119) B G.1 iX7_city_cX4 rfl (by decide) s_c13 3 (by decide) iX7_city_8 rfl dX7_city_20 ?_
    refine x_isub B dX7_city_23 ?_
    obtain ⟨rfl, rfl⟩ := x_retI hf
    exact x_iret B hr dX7_city_24
theorem iX7_fault_0 : Cond.fieldLink RX7 19 "SignDuty" "reader" "LSignDuty$Reader;" ∈ wsX7_fault := by decide +kernel
theorem iX7_fault_cX7 : ∀ w ∈ u_ws RX7 TX7 9, w ∈ wsX7_fault := by decide +kernel
theorem iX7_fault_2 : Cond.fieldLink RX7 132 "SignDuty$Reader" "lastFault" "I" ∈ wsX7_fault := by decide +kernel
theorem iX7_fault_cX4 : ∀ w ∈ u_ws RX4 TX4 6, w ∈ wsX7_fault := by decide +kernel
set_option maxRecDepth 100000 in
set_option maxHeartbeats 4000000 in
theorem mX7_fault {σ : x_S} (hdis : x_dis s_N ad) (hf : fX7_fault  σ = some r0) : x_NI l yX7_fault wsX7_fault 0 D vwCl (s_tys cI cQ cC cZ) s_N (s_C cI cQ cC ad) ad (s_St aS) s_NW [.ref (ad 0)] σ r0 σ := by
  refine x_met (cc := cX7_fault) (own := RX7) (maxL := 1) (ret := (some .int)) (by decide +kernel) rfl rfl (Nat.le_of_ble_eq_true rfl) hdis (s_StOk aS) s_NwOk (fun p e s m args below meth c B G hr => ?_)
  unfold fX7_fault at hf
  refine x_sub (lv' := [(0, .ref (ad 0))]) [0] rfl ?_
  refine x_aload_n B dX7_fault_0 rfl 0 rfl ?_
  refine x_get (v := .ref (ad 13)) (kc := 0) (index := 19) B G.1 iX7_fault_cX7 rfl (by decide) s_c0 1 (by decide) iX7_fault_0 rfl dX7_fault_1 ?_
  refine x_get (v := .int (σ 13 2)) (kc := 13) (index := 132) B G.1 iX7_fault_cX4 rfl (by decide) s_c13 2 (by decide) iX7_fault_2 rfl dX7_fault_4 ?_
  obtain rfl := x_retP hf
  exact x_iret B hr dX7_fault_7
theorem iX7_isGesture_0 : Cond.fieldLink RX7 26 "SignDuty" "city" "LSignDuty$City;" ∈ wsX7_isGesture := by decide +kernel
theorem iX7_isGesture_cX7 : ∀ w ∈ u_ws RX7 TX7 9, w ∈ wsX7_isGesture := by decide +kernel
theorem iX7_isGesture_2 : Cond.fieldLink RX7 129 "SignDuty$City" "gestures" "I" ∈ wsX7_isGesture := by decide +kernel
theorem iX7_isGesture_cX2 : ∀ w ∈ u_ws RX2 TX2 13, w ∈ wsX7_isGesture := by decide +kernel
set_option maxRecDepth 100000 in
set_option maxHeartbeats 4000000 in
theorem mX7_isGesture {σ : x_S} {a1 : Int32} (hdis : x_dis s_N ad) (hf : fX7_isGesture a1 σ = some r0) : x_NI l yX7_isGesture wsX7_isGesture 0 D vwCl (s_tys cI cQ cC cZ) s_N (s_C cI cQ cC ad) ad (s_St aS) s_NW [.ref (ad 0), .int a1] σ r0 σ := by
  refine x_met (cc := cX7_isGesture) (own := RX7) (maxL := 2) (ret := (some .boolean)) (by decide +kernel) rfl rfl (Nat.le_of_ble_eq_true rfl) hdis (s_StOk aS) s_NwOk (fun p e s m args below meth c B G hr => ?_)
  unfold fX7_isGesture at hf
  refine x_sub (lv' := [(0, .ref (ad 0)), (1, .int a1)]) [0, 1] rfl ?_
  refine x_iload_n B dX7_isGesture_0 rfl 1 rfl ?_
  refine x_if_lt (tgt := 19) B dX7_isGesture_1 (by decide) (fun h1 => ?_) (fun h1 => ?_)
  · replace hf := x_it h1 hf
    refine x_iconst (v := 0) B dX7_isGesture_19 (by decide) ?_
    obtain rfl := x_retP hf
    exact x_zret B hr (by decide) dX7_isGesture_20
  · replace hf := x_if h1 hf
    refine x_iload_n B dX7_isGesture_4 rfl 1 rfl ?_
    refine x_aload_n B dX7_isGesture_5 rfl 0 rfl ?_
    refine x_get (v := .ref (ad 32)) (kc := 0) (index := 26) B G.1 iX7_isGesture_cX7 rfl (by decide) s_c0 2 (by decide) iX7_isGesture_0 rfl dX7_isGesture_6 ?_
    refine x_get (v := .int (σ 32 5)) (kc := 32) (index := 129) B G.1 iX7_isGesture_cX2 rfl (s_kC s_iC32) (s_cC s_iC32) 5 (by decide) iX7_isGesture_2 rfl dX7_isGesture_9 ?_
    refine x_icmp_ge (tgt := 19) B dX7_isGesture_12 (by decide) (fun h2 => ?_) (fun h2 => ?_)
    · replace hf := x_it h2 hf
      refine x_iconst (v := 0) B dX7_isGesture_19 (by decide) ?_
      obtain rfl := x_retP hf
      exact x_zret B hr (by decide) dX7_isGesture_20
    · replace hf := x_if h2 hf
      refine x_iconst (v := 1) B dX7_isGesture_15 (by decide) ?_
      refine x_goto (tgt := 20) B dX7_isGesture_16 (by decide) ?_
      obtain rfl := x_retP hf
      exact x_zret B hr (by decide) dX7_isGesture_20
theorem iX7_isStreet_0 : Cond.fieldLink RX7 26 "SignDuty" "city" "LSignDuty$City;" ∈ wsX7_isStreet := by decide +kernel
theorem iX7_isStreet_cX7 : ∀ w ∈ u_ws RX7 TX7 9, w ∈ wsX7_isStreet := by decide +kernel
theorem iX7_isStreet_2 : Cond.fieldLink RX7 238 "SignDuty$City" "streets" "I" ∈ wsX7_isStreet := by decide +kernel
theorem iX7_isStreet_cX2 : ∀ w ∈ u_ws RX2 TX2 13, w ∈ wsX7_isStreet := by decide +kernel
set_option maxRecDepth 100000 in
set_option maxHeartbeats 4000000 in
theorem mX7_isStreet {σ : x_S} {a1 : Int32} (hdis : x_dis s_N ad) (hf : fX7_isStreet a1 σ = some r0) : x_NI l yX7_isStreet wsX7_isStreet 0 D vwCl (s_tys cI cQ cC cZ) s_N (s_C cI cQ cC ad) ad (s_St aS) s_NW [.ref (ad 0), .int a1] σ r0 σ := by
  refine x_met (cc := cX7_isStreet) (own := RX7) (maxL := 2) (ret := (some .boolean)) (by decide +kernel) rfl rfl (Nat.le_of_ble_eq_true rfl) hdis (s_StOk aS) s_NwOk (fun p e s m args below meth c B G hr => ?_)
  unfold fX7_isStreet at hf
  refine x_sub (lv' := [(0, .ref (ad 0)), (1, .int a1)]) [0, 1] rfl ?_
  refine x_iload_n B dX7_isStreet_0 rfl 1 rfl ?_
  refine x_if_lt (tgt := 19) B dX7_isStreet_1 (by decide) (fun h1 => ?_) (fun h1 => ?_)
  · replace hf := x_it h1 hf
    refine x_iconst (v := 0) B dX7_isStreet_19 (by decide) ?_
    obtain rfl := x_retP hf
    exact x_zret B hr (by decide) dX7_isStreet_20
  · replace hf := x_if h1 hf
    refine x_iload_n B dX7_isStreet_4 rfl 1 rfl ?_
    refine x_aload_n B dX7_isStreet_5 rfl 0 rfl ?_
    refine x_get (v := .ref (ad 32)) (kc := 0) (index := 26) B G.1 iX7_isStreet_cX7 rfl (by decide) s_c0 2 (by decide) iX7_isStreet_0 rfl dX7_isStreet_6 ?_
    refine x_get (v := .int (σ 32 3)) (kc := 32) (index := 238) B G.1 iX7_isStreet_cX2 rfl (s_kC s_iC32) (s_cC s_iC32) 3 (by decide) iX7_isStreet_2 rfl dX7_isStreet_9 ?_
    refine x_icmp_ge (tgt := 19) B dX7_isStreet_12 (by decide) (fun h2 => ?_) (fun h2 => ?_)
    · replace hf := x_it h2 hf
      refine x_iconst (v := 0) B dX7_isStreet_19 (by decide) ?_
      obtain rfl := x_retP hf
      exact x_zret B hr (by decide) dX7_isStreet_20
    · replace hf := x_if h2 hf
      refine x_iconst (v := 1) B dX7_isStreet_15 (by decide) ?_
      refine x_goto (tgt := 20) B dX7_isStreet_16 (by decide) ?_
      obtain rfl := x_retP hf
      exact x_zret B hr (by decide) dX7_isStreet_20
theorem iX7_make_0 : Cond.constant RX7 70 (-1000001) ∈ wsX7_make := by decide +kernel
theorem iX7_make_1 : Cond.fieldLink RX7 26 "SignDuty" "city" "LSignDuty$City;" ∈ wsX7_make := by decide +kernel
theorem iX7_make_cX7 : ∀ w ∈ u_ws RX7 TX7 9, w ∈ wsX7_make := by decide +kernel
theorem iX7_make_3 : Cond.fieldLink RX7 149 "SignDuty$City" "paid" "I" ∈ wsX7_make := by decide +kernel
theorem iX7_make_cX2 : ∀ w ∈ u_ws RX2 TX2 13, w ∈ wsX7_make := by decide +kernel
theorem iX7_make_5 : Cond.constant RX7 152 99999 ∈ wsX7_make := by decide +kernel
theorem iX7_make_6 : Cond.fieldLink RX7 153 "SignDuty$City" "made" "[I" ∈ wsX7_make := by decide +kernel
theorem iX7_make_7 : Cond.fieldLink RX7 40 "SignDuty" "acts" "LSignDuty$Acts;" ∈ wsX7_make := by decide +kernel
theorem iX7_make_8 : Cond.constant RX7 110 (-1000003) ∈ wsX7_make := by decide +kernel
theorem iX7_make_9 : Cond.constant RX7 144 (-1000002) ∈ wsX7_make := by decide +kernel
set_option maxRecDepth 100000 in
set_option maxHeartbeats 4000000 in
theorem mX7_make {σ : x_S} {a1 : Int32} {a2 : Int32} (hdis : x_dis s_N ad) (hf : fX7_make a1 a2 σ = some (r0, σ0)) : x_NI l yX7_make wsX7_make 4 D vwCl (s_tys cI cQ cC cZ) s_N (s_C cI cQ cC ad) ad (s_St aS) s_NW [.ref (ad 0), .int a1, .int a2] σ r0 σ0 := by
  refine x_met (cc := cX7_make) (own := RX7) (maxL := 4) (ret := (some .int)) (by decide +kernel) rfl rfl (Nat.le_of_ble_eq_true rfl) hdis (s_StOk aS) s_NwOk (fun p e s m args below meth c B G hr => ?_)
  unfold fX7_make at hf
  refine x_sub (lv' := [(0, .ref (ad 0)), (1, .int a1), (2, .int a2)]) [0, 1, 2] rfl ?_
  refine x_aload_n B dX7_make_0 rfl 0 rfl ?_
  refine x_iload_n B dX7_make_1 rfl 1 rfl ?_
  obtain ⟨r2, e1, hf⟩ := x_ps hf
  refine x_callV (As := [.int a1]) (st := []) B G (mX7_isGesture (l := l) G.1.2.1  e1) (cwV 1 B.2.2.2.2.1 gX7_make_X7_isGesture rfl rfl rfl hdX7_isGesture (x_rm_ok (by omega) (by decide))) (by decide) s_c0 rfl rfl rfl (Nat.le_of_ble_eq_true rfl) ⟨Nat.zero_le _, Nat.zero_le _⟩ dX7_make_2 ?_
  refine x_if_eq (tgt := 16) B dX7_make_5 (by decide) (fun h3 => ?_) (fun h3 => ?_)
  · replace hf := x_it h3 hf
    refine x_ldc (v := (-1000001)) B iX7_make_0 dX7_make_16 ?_
    obtain ⟨rfl, rfl⟩ := x_retI hf
    exact x_iret B hr dX7_make_18
  · replace hf := x_if h3 hf
    refine x_aload_n B dX7_make_8 rfl 0 rfl ?_
    refine x_iload_n B dX7_make_9 rfl 2 rfl ?_
    obtain ⟨r5, e4, hf⟩ := x_ps hf
    refine x_callV (As := [.int a2]) (st := []) B G (mX7_isStreet (l := l) G.1.2.1  e4) (cwV 1 B.2.2.2.2.1 gX7_make_X7_isStreet rfl rfl rfl hdX7_isStreet (x_rm_ok (by omega) (by decide))) (by decide) s_c0 rfl rfl rfl (Nat.le_of_ble_eq_true rfl) ⟨Nat.zero_le _, Nat.zero_le _⟩ dX7_make_10 ?_
    refine x_if_ne (tgt := 19) B dX7_make_13 (by decide) (fun h6 => ?_) (fun h6 => ?_)
    · replace hf := x_if h6 hf
      refine x_aload_n B dX7_make_19 rfl 0 rfl ?_
      refine x_get (v := .ref (ad 32)) (kc := 0) (index := 26) B G.1 iX7_make_cX7 rfl (by decide) s_c0 2 (by decide) iX7_make_1 rfl dX7_make_20 ?_
      refine x_iload_n B dX7_make_23 rfl 1 rfl ?_
      refine x_iload_n B dX7_make_24 rfl 2 rfl ?_
      obtain ⟨r8, e7, hf⟩ := x_ps hf
      refine x_callV (As := [.int a1, .int a2]) (st := []) B G (mX2_isSeen (l := l) G.1.2.1 s_iC32 e7) (cwV 2 B.2.2.2.2.1 gX7_make_X2_isSeen rfl rfl rfl hdX2_isSeen (x_rm_ok (by omega) (by decide))) (s_kC s_iC32) (s_cC s_iC32) rfl rfl rfl (Nat.le_of_ble_eq_true rfl) ⟨Nat.zero_le _, Nat.zero_le _⟩ dX7_make_25 ?_
      refine x_if_ne (tgt := 34) B dX7_make_28 (by decide) (fun h9 => ?_) (fun h9 => ?_)
      · replace hf := x_if h9 hf
        refine x_aload_n B dX7_make_34 rfl 0 rfl ?_
        refine x_get (v := .ref (ad 32)) (kc := 0) (index := 26) B G.1 iX7_make_cX7 rfl (by decide) s_c0 2 (by decide) iX7_make_1 rfl dX7_make_35 ?_
        refine x_iload_n B dX7_make_38 rfl 1 rfl ?_
        refine x_iload_n B dX7_make_39 rfl 2 rfl ?_
        obtain ⟨r11, e10, hf⟩ := x_ps hf
        refine x_callV (As := [.int a1, .int a2]) (st := []) B G (mX2_owes (l := l) G.1.2.1 s_iC32 e10) (cwV 2 B.2.2.2.2.1 gX7_make_X2_owes rfl rfl rfl hdX2_owes (x_rm_ok (by omega) (by decide))) (s_kC s_iC32) (s_cC s_iC32) rfl rfl rfl (Nat.le_of_ble_eq_true rfl) ⟨Nat.zero_le _, Nat.zero_le _⟩ dX7_make_40 ?_
        refine x_istore_n (lv' := [(3, .int r11), (0, .ref (ad 0)), (1, .int a1), (2, .int a2)]) B dX7_make_43 rfl (by decide) rfl ?_
        refine x_aload_n B dX7_make_44 rfl 1 rfl ?_
        refine x_get (v := .ref (ad 32)) (kc := 0) (index := 26) B G.1 iX7_make_cX7 rfl (by decide) s_c0 2 (by decide) iX7_make_1 rfl dX7_make_45 ?_
        refine x_get (v := .int (σ 32 2)) (kc := 32) (index := 149) B G.1 iX7_make_cX2 rfl (s_kC s_iC32) (s_cC s_iC32) 2 (by decide) iX7_make_3 rfl dX7_make_48 ?_
        refine x_iload_n B dX7_make_51 rfl 0 rfl ?_
        refine x_iadd B dX7_make_52 ?_
        refine x_ldc (v := 99999) B iX7_make_5 dX7_make_53 ?_
        refine x_icmp_le (tgt := 61) B dX7_make_55 (by decide) (fun h12 => ?_) (fun h12 => ?_)
        · replace hf := x_it h12 hf
          refine x_aload_n B dX7_make_61 rfl 1 rfl ?_
          refine x_get (v := .ref (ad 32)) (kc := 0) (index := 26) B G.1 iX7_make_cX7 rfl (by decide) s_c0 2 (by decide) iX7_make_1 rfl dX7_make_62 ?_
          refine x_get (v := .ref (ad 39)) (kc := 32) (index := 153) B G.1 iX7_make_cX2 rfl (s_kC s_iC32) (s_cC s_iC32) 12 (by decide) iX7_make_6 rfl dX7_make_65 ?_
          refine x_iload_n B dX7_make_68 rfl 2 rfl ?_
          refine x_dup2 B dX7_make_69 rfl rfl ?_
          obtain ⟨h13, hf⟩ := x_gs hf
          refine x_iald (kc := 39) (t0 := 0) B G.1 (s_kC7 s_iC32) (s_cC7 s_iC32) rfl h13 dX7_make_70 ?_
          refine x_iconst (v := 1) B dX7_make_71 (by decide) ?_
          refine x_iadd B dX7_make_72 ?_
          obtain ⟨h14, hf⟩ := x_gs hf
          obtain ⟨σ15, u16, hf⟩ := x_ws hf
          refine x_iast (kc := 39) (t0 := 0) B G.1 (s_kC7 s_iC32) (s_cC7 s_iC32) rfl h14 dX7_make_73 ?_
          refine x_nm u16 ?_
          refine x_aload_n B dX7_make_74 rfl 1 rfl ?_
          refine x_get (v := .ref (ad 32)) (kc := 0) (index := 26) B G.1 iX7_make_cX7 rfl (by decide) s_c0 2 (by decide) iX7_make_1 rfl dX7_make_75 ?_
          refine x_dup B dX7_make_78 rfl ?_
          refine x_get (v := .int (σ15 32 2)) (kc := 32) (index := 149) B G.1 iX7_make_cX2 rfl (s_kC s_iC32) (s_cC s_iC32) 2 (by decide) iX7_make_3 rfl dX7_make_79 ?_
          refine x_iload_n B dX7_make_82 rfl 0 rfl ?_
          refine x_iadd B dX7_make_83 ?_
          obtain ⟨σ17, u18, hf⟩ := x_ws hf
          refine x_put (v := ((σ15 32 2) + r11)) (ty := .int) (kc := 32) (index := 149) B G.1 iX7_make_cX2 tyX2 tyX2_ok nmX2 rfl (s_kC s_iC32) (s_cC s_iC32) 2 (by decide) iX7_make_3 rfl rfl rfl rfl (Nat.le_of_ble_eq_true rfl) (s_w2_2 _ _) dX7_make_84 ?_
          refine x_nm u18 ?_
          refine x_aload_n B dX7_make_87 rfl 1 rfl ?_
          refine x_get (v := .ref (ad 16)) (kc := 0) (index := 40) B G.1 iX7_make_cX7 rfl (by decide) s_c0 5 (by decide) iX7_make_7 rfl dX7_make_88 ?_
          refine x_iconst (v := 0) B dX7_make_91 (by decide) ?_
          refine x_iload_n B dX7_make_92 rfl 2 rfl ?_
          refine x_iload_n B dX7_make_93 rfl 0 rfl ?_
          obtain ⟨σ20, e19, hf⟩ := x_vs hf
          refine x_callVv (As := [.int 0, .int a1, .int r11]) (st := []) B G (mX0_keep (l := l) G.1.2.1  e19) (cwV 3 B.2.2.2.2.1 gX7_make_X0_keep rfl rfl rfl hdX0_keep (x_rm_ok (by omega) (by decide))) (by decide) s_c16 rfl rfl rfl (Nat.le_of_ble_eq_true rfl) ⟨Nat.zero_le _, Nat.zero_le _⟩ dX7_make_94 ?_
          refine x_aload_n B dX7_make_97 rfl 1 rfl ?_
          refine x_get (v := .ref (ad 32)) (kc := 0) (index := 26) B G.1 iX7_make_cX7 rfl (by decide) s_c0 2 (by decide) iX7_make_1 rfl dX7_make_98 ?_
          refine x_get (v := .int (σ20 32 2)) (kc := 32) (index := 149) B G.1 iX7_make_cX2 rfl (s_kC s_iC32) (s_cC s_iC32) 2 (by decide) iX7_make_3 rfl dX7_make_101 ?_
          obtain ⟨rfl, rfl⟩ := x_retI hf
          exact x_iret B hr dX7_make_104
        · replace hf := x_if h12 hf
          refine x_ldc (v := (-1000003)) B iX7_make_8 dX7_make_58 ?_
          obtain ⟨rfl, rfl⟩ := x_retI hf
          exact x_iret B hr dX7_make_60
      · replace hf := x_it h9 hf
        refine x_ldc (v := (-1000002)) B iX7_make_9 dX7_make_31 ?_
        obtain ⟨rfl, rfl⟩ := x_retI hf
        exact x_iret B hr dX7_make_33
    · replace hf := x_it h6 hf
      refine x_ldc (v := (-1000001)) B iX7_make_0 dX7_make_16 ?_
      obtain ⟨rfl, rfl⟩ := x_retI hf
      exact x_iret B hr dX7_make_18
theorem iX7_dim_0 : Cond.constant RX7 70 (-1000001) ∈ wsX7_dim := by decide +kernel
theorem iX7_dim_1 : Cond.fieldLink RX7 26 "SignDuty" "city" "LSignDuty$City;" ∈ wsX7_dim := by decide +kernel
theorem iX7_dim_cX7 : ∀ w ∈ u_ws RX7 TX7 9, w ∈ wsX7_dim := by decide +kernel
theorem iX7_dim_3 : Cond.fieldLink RX7 160 "SignDuty$City" "dim" "[I" ∈ wsX7_dim := by decide +kernel
theorem iX7_dim_cX2 : ∀ w ∈ u_ws RX2 TX2 13, w ∈ wsX7_dim := by decide +kernel
theorem iX7_dim_5 : Cond.fieldLink RX7 40 "SignDuty" "acts" "LSignDuty$Acts;" ∈ wsX7_dim := by decide +kernel
set_option maxRecDepth 100000 in
set_option maxHeartbeats 4000000 in
theorem mX7_dim {σ : x_S} {a1 : Int32} {a2 : Int32} (hdis : x_dis s_N ad) (hf : fX7_dim a1 a2 σ = some (r0, σ0)) : x_NI l yX7_dim wsX7_dim 2 D vwCl (s_tys cI cQ cC cZ) s_N (s_C cI cQ cC ad) ad (s_St aS) s_NW [.ref (ad 0), .int a1, .int a2] σ r0 σ0 := by
  refine x_met (cc := cX7_dim) (own := RX7) (maxL := 4) (ret := (some .int)) (by decide +kernel) rfl rfl (Nat.le_of_ble_eq_true rfl) hdis (s_StOk aS) s_NwOk (fun p e s m args below meth c B G hr => ?_)
  unfold fX7_dim at hf
  refine x_sub (lv' := [(0, .ref (ad 0)), (1, .int a1), (2, .int a2)]) [0, 1, 2] rfl ?_
  refine x_aload_n B dX7_dim_0 rfl 0 rfl ?_
  refine x_iload_n B dX7_dim_1 rfl 1 rfl ?_
  obtain ⟨r2, e1, hf⟩ := x_ps hf
  refine x_callV (As := [.int a1]) (st := []) B G (mX7_isStreet (l := l) G.1.2.1  e1) (cwV 1 B.2.2.2.2.1 gX7_dim_X7_isStreet rfl rfl rfl hdX7_isStreet (x_rm_ok (by omega) (by decide))) (by decide) s_c0 rfl rfl rfl (Nat.le_of_ble_eq_true rfl) ⟨Nat.zero_le _, Nat.zero_le _⟩ dX7_dim_2 ?_
  refine x_if_eq (tgt := 18) B dX7_dim_5 (by decide) (fun h3 => ?_) (fun h3 => ?_)
  · replace hf := x_it h3 hf
    refine x_ldc (v := (-1000001)) B iX7_dim_0 dX7_dim_18 ?_
    obtain ⟨rfl, rfl⟩ := x_retI hf
    exact x_iret B hr dX7_dim_20
  · replace hf := x_if h3 hf
    refine x_iload_n B dX7_dim_8 rfl 2 rfl ?_
    refine x_iconst (v := 0) B dX7_dim_9 (by decide) ?_
    refine x_bipush (v := 30) B dX7_dim_10 (by decide) ?_
    obtain ⟨r5, e4, hf⟩ := x_ps hf
    refine x_callS (As := [.int a2, .int 0, .int 30]) (st := []) B G (mX7_isWithin (l := l) G.1.2.1  e4) (va_cwS 3 B.2.2.2.2.1 gX7_dim_X7_isWithin rfl rfl rfl hdX7_isWithin (x_rm_ok (by omega) (by decide))) rfl rfl (Nat.le_of_ble_eq_true rfl) ⟨Nat.zero_le _, Nat.zero_le _⟩ dX7_dim_12 ?_
    refine x_if_ne (tgt := 21) B dX7_dim_15 (by decide) (fun h6 => ?_) (fun h6 => ?_)
    · replace hf := x_if h6 hf
      refine x_aload_n B dX7_dim_21 rfl 0 rfl ?_
      refine x_get (v := .ref (ad 32)) (kc := 0) (index := 26) B G.1 iX7_dim_cX7 rfl (by decide) s_c0 2 (by decide) iX7_dim_1 rfl dX7_dim_22 ?_
      refine x_get (v := .ref (ad 33)) (kc := 32) (index := 160) B G.1 iX7_dim_cX2 rfl (s_kC s_iC32) (s_cC s_iC32) 6 (by decide) iX7_dim_3 rfl dX7_dim_25 ?_
      refine x_iload_n B dX7_dim_28 rfl 1 rfl ?_
      obtain ⟨h7, hf⟩ := x_gs hf
      refine x_iald (kc := 33) (t0 := 0) B G.1 (s_kC1 s_iC32) (s_cC1 s_iC32) rfl h7 dX7_dim_29 ?_
      refine x_istore_n (lv' := [(3, .int (σ 33 a1.toNatClampNeg)), (0, .ref (ad 0)), (1, .int a1), (2, .int a2)]) B dX7_dim_30 rfl (by decide) rfl ?_
      refine x_aload_n B dX7_dim_31 rfl 1 rfl ?_
      refine x_get (v := .ref (ad 32)) (kc := 0) (index := 26) B G.1 iX7_dim_cX7 rfl (by decide) s_c0 2 (by decide) iX7_dim_1 rfl dX7_dim_32 ?_
      refine x_get (v := .ref (ad 33)) (kc := 32) (index := 160) B G.1 iX7_dim_cX2 rfl (s_kC s_iC32) (s_cC s_iC32) 6 (by decide) iX7_dim_3 rfl dX7_dim_35 ?_
      refine x_iload_n B dX7_dim_38 rfl 2 rfl ?_
      refine x_iload_n B dX7_dim_39 rfl 3 rfl ?_
      obtain ⟨h8, hf⟩ := x_gs hf
      obtain ⟨σ9, u10, hf⟩ := x_ws hf
      refine x_iast (kc := 33) (t0 := 0) B G.1 (s_kC1 s_iC32) (s_cC1 s_iC32) rfl h8 dX7_dim_40 ?_
      refine x_nm u10 ?_
      refine x_aload_n B dX7_dim_41 rfl 1 rfl ?_
      refine x_get (v := .ref (ad 16)) (kc := 0) (index := 40) B G.1 iX7_dim_cX7 rfl (by decide) s_c0 5 (by decide) iX7_dim_5 rfl dX7_dim_42 ?_
      refine x_iconst (v := 1) B dX7_dim_45 (by decide) ?_
      refine x_iload_n B dX7_dim_46 rfl 2 rfl ?_
      refine x_iload_n B dX7_dim_47 rfl 0 rfl ?_
      obtain ⟨σ12, e11, hf⟩ := x_vs hf
      refine x_callVv (As := [.int 1, .int a1, .int (σ 33 a1.toNatClampNeg)]) (st := []) B G (mX0_keep (l := l) G.1.2.1  e11) (cwV 3 B.2.2.2.2.1 gX7_dim_X0_keep rfl rfl rfl hdX0_keep (x_rm_ok (by omega) (by decide))) (by decide) s_c16 rfl rfl rfl (Nat.le_of_ble_eq_true rfl) ⟨Nat.zero_le _, Nat.zero_le _⟩ dX7_dim_48 ?_
      refine x_iload_n B dX7_dim_51 rfl 0 rfl ?_
      obtain ⟨rfl, rfl⟩ := x_retI hf
      exact x_iret B hr dX7_dim_52
    · replace hf := x_it h6 hf
      refine x_ldc (v := (-1000001)) B iX7_dim_0 dX7_dim_18 ?_
      obtain ⟨rfl, rfl⟩ := x_retI hf
      exact x_iret B hr dX7_dim_20
theorem iX7_train_0 : Cond.constant RX7 70 (-1000001) ∈ wsX7_train := by decide +kernel
theorem iX7_train_1 : Cond.fieldLink RX7 26 "SignDuty" "city" "LSignDuty$City;" ∈ wsX7_train := by decide +kernel
theorem iX7_train_cX7 : ∀ w ∈ u_ws RX7 TX7 9, w ∈ wsX7_train := by decide +kernel
theorem iX7_train_3 : Cond.fieldLink RX7 163 "SignDuty$City" "inches" "[I" ∈ wsX7_train := by decide +kernel
theorem iX7_train_cX2 : ∀ w ∈ u_ws RX2 TX2 13, w ∈ wsX7_train := by decide +kernel
theorem iX7_train_5 : Cond.fieldLink RX7 40 "SignDuty" "acts" "LSignDuty$Acts;" ∈ wsX7_train := by decide +kernel
theorem iX7_train_6 : Cond.constant RX7 144 (-1000002) ∈ wsX7_train := by decide +kernel
set_option maxRecDepth 100000 in
set_option maxHeartbeats 4000000 in
theorem mX7_train {σ : x_S} {a1 : Int32} {a2 : Int32} (hdis : x_dis s_N ad) (hf : fX7_train a1 a2 σ = some (r0, σ0)) : x_NI l yX7_train wsX7_train 2 D vwCl (s_tys cI cQ cC cZ) s_N (s_C cI cQ cC ad) ad (s_St aS) s_NW [.ref (ad 0), .int a1, .int a2] σ r0 σ0 := by
  refine x_met (cc := cX7_train) (own := RX7) (maxL := 3) (ret := (some .int)) (by decide +kernel) rfl rfl (Nat.le_of_ble_eq_true rfl) hdis (s_StOk aS) s_NwOk (fun p e s m args below meth c B G hr => ?_)
  unfold fX7_train at hf
  refine x_sub (lv' := [(0, .ref (ad 0)), (1, .int a1), (2, .int a2)]) [0, 1, 2] rfl ?_
  refine x_aload_n B dX7_train_0 rfl 0 rfl ?_
  refine x_iload_n B dX7_train_1 rfl 1 rfl ?_
  obtain ⟨r2, e1, hf⟩ := x_ps hf
  refine x_callV (As := [.int a1]) (st := []) B G (mX7_isGesture (l := l) G.1.2.1  e1) (cwV 1 B.2.2.2.2.1 gX7_train_X7_isGesture rfl rfl rfl hdX7_isGesture (x_rm_ok (by omega) (by decide))) (by decide) s_c0 rfl rfl rfl (Nat.le_of_ble_eq_true rfl) ⟨Nat.zero_le _, Nat.zero_le _⟩ dX7_train_2 ?_
  refine x_if_eq (tgt := 18) B dX7_train_5 (by decide) (fun h3 => ?_) (fun h3 => ?_)
  · replace hf := x_it h3 hf
    refine x_ldc (v := (-1000001)) B iX7_train_0 dX7_train_18 ?_
    obtain ⟨rfl, rfl⟩ := x_retI hf
    exact x_iret B hr dX7_train_20
  · replace hf := x_if h3 hf
    refine x_iload_n B dX7_train_8 rfl 2 rfl ?_
    refine x_iconst (v := 1) B dX7_train_9 (by decide) ?_
    refine x_bipush (v := 29) B dX7_train_10 (by decide) ?_
    obtain ⟨r5, e4, hf⟩ := x_ps hf
    refine x_callS (As := [.int a2, .int 1, .int 29]) (st := []) B G (mX7_isWithin (l := l) G.1.2.1  e4) (va_cwS 3 B.2.2.2.2.1 gX7_train_X7_isWithin rfl rfl rfl hdX7_isWithin (x_rm_ok (by omega) (by decide))) rfl rfl (Nat.le_of_ble_eq_true rfl) ⟨Nat.zero_le _, Nat.zero_le _⟩ dX7_train_12 ?_
    refine x_if_ne (tgt := 21) B dX7_train_15 (by decide) (fun h6 => ?_) (fun h6 => ?_)
    · replace hf := x_if h6 hf
      refine x_aload_n B dX7_train_21 rfl 0 rfl ?_
      refine x_get (v := .ref (ad 32)) (kc := 0) (index := 26) B G.1 iX7_train_cX7 rfl (by decide) s_c0 2 (by decide) iX7_train_1 rfl dX7_train_22 ?_
      refine x_get (v := .ref (ad 36)) (kc := 32) (index := 163) B G.1 iX7_train_cX2 rfl (s_kC s_iC32) (s_cC s_iC32) 9 (by decide) iX7_train_3 rfl dX7_train_25 ?_
      refine x_iload_n B dX7_train_28 rfl 1 rfl ?_
      obtain ⟨h7, hf⟩ := x_gs hf
      refine x_iald (kc := 36) (t0 := 0) B G.1 (s_kC4 s_iC32) (s_cC4 s_iC32) rfl h7 dX7_train_29 ?_
      refine x_iload_n B dX7_train_30 rfl 2 rfl ?_
      refine x_isub B dX7_train_31 ?_
      refine x_iconst (v := 1) B dX7_train_32 (by decide) ?_
      refine x_icmp_ge (tgt := 39) B dX7_train_33 (by decide) (fun h8 => ?_) (fun h8 => ?_)
      · replace hf := x_it h8 hf
        refine x_aload_n B dX7_train_39 rfl 0 rfl ?_
        refine x_get (v := .ref (ad 32)) (kc := 0) (index := 26) B G.1 iX7_train_cX7 rfl (by decide) s_c0 2 (by decide) iX7_train_1 rfl dX7_train_40 ?_
        refine x_get (v := .ref (ad 36)) (kc := 32) (index := 163) B G.1 iX7_train_cX2 rfl (s_kC s_iC32) (s_cC s_iC32) 9 (by decide) iX7_train_3 rfl dX7_train_43 ?_
        refine x_iload_n B dX7_train_46 rfl 1 rfl ?_
        refine x_dup2 B dX7_train_47 rfl rfl ?_
        obtain ⟨h9, hf⟩ := x_gs hf
        refine x_iald (kc := 36) (t0 := 0) B G.1 (s_kC4 s_iC32) (s_cC4 s_iC32) rfl h9 dX7_train_48 ?_
        refine x_iload_n B dX7_train_49 rfl 2 rfl ?_
        refine x_isub B dX7_train_50 ?_
        obtain ⟨h10, hf⟩ := x_gs hf
        obtain ⟨σ11, u12, hf⟩ := x_ws hf
        refine x_iast (kc := 36) (t0 := 0) B G.1 (s_kC4 s_iC32) (s_cC4 s_iC32) rfl h10 dX7_train_51 ?_
        refine x_nm u12 ?_
        refine x_aload_n B dX7_train_52 rfl 0 rfl ?_
        refine x_get (v := .ref (ad 16)) (kc := 0) (index := 40) B G.1 iX7_train_cX7 rfl (by decide) s_c0 5 (by decide) iX7_train_5 rfl dX7_train_53 ?_
        refine x_iconst (v := 2) B dX7_train_56 (by decide) ?_
        refine x_iload_n B dX7_train_57 rfl 1 rfl ?_
        refine x_iload_n B dX7_train_58 rfl 2 rfl ?_
        obtain ⟨σ14, e13, hf⟩ := x_vs hf
        refine x_callVv (As := [.int 2, .int a1, .int a2]) (st := []) B G (mX0_keep (l := l) G.1.2.1  e13) (cwV 3 B.2.2.2.2.1 gX7_train_X0_keep rfl rfl rfl hdX0_keep (x_rm_ok (by omega) (by decide))) (by decide) s_c16 rfl rfl rfl (Nat.le_of_ble_eq_true rfl) ⟨Nat.zero_le _, Nat.zero_le _⟩ dX7_train_59 ?_
        refine x_aload_n B dX7_train_62 rfl 0 rfl ?_
        refine x_get (v := .ref (ad 32)) (kc := 0) (index := 26) B G.1 iX7_train_cX7 rfl (by decide) s_c0 2 (by decide) iX7_train_1 rfl dX7_train_63 ?_
        refine x_get (v := .ref (ad 36)) (kc := 32) (index := 163) B G.1 iX7_train_cX2 rfl (s_kC s_iC32) (s_cC s_iC32) 9 (by decide) iX7_train_3 rfl dX7_train_66 ?_
        refine x_iload_n B dX7_train_69 rfl 1 rfl ?_
        obtain ⟨h15, hf⟩ := x_gs hf
        refine x_iald (kc := 36) (t0 := 0) B G.1 (s_kC4 s_iC32) (s_cC4 s_iC32) rfl h15 dX7_train_70 ?_
        obtain ⟨rfl, rfl⟩ := x_retI hf
        exact x_iret B hr dX7_train_71
      · replace hf := x_if h8 hf
        refine x_ldc (v := (-1000002)) B iX7_train_6 dX7_train_36 ?_
        obtain ⟨rfl, rfl⟩ := x_retI hf
        exact x_iret B hr dX7_train_38
    · replace hf := x_it h6 hf
      refine x_ldc (v := (-1000001)) B iX7_train_0 dX7_train_18 ?_
      obtain ⟨rfl, rfl⟩ := x_retI hf
      exact x_iret B hr dX7_train_20
theorem iX7_know_0 : Cond.constant RX7 70 (-1000001) ∈ wsX7_know := by decide +kernel
theorem iX7_know_1 : Cond.fieldLink RX7 26 "SignDuty" "city" "LSignDuty$City;" ∈ wsX7_know := by decide +kernel
theorem iX7_know_cX7 : ∀ w ∈ u_ws RX7 TX7 9, w ∈ wsX7_know := by decide +kernel
theorem iX7_know_3 : Cond.fieldLink RX7 40 "SignDuty" "acts" "LSignDuty$Acts;" ∈ wsX7_know := by decide +kernel
theorem iX7_know_4 : Cond.fieldLink RX7 173 "SignDuty$City" "known" "I" ∈ wsX7_know := by decide +kernel
theorem iX7_know_cX2 : ∀ w ∈ u_ws RX2 TX2 13, w ∈ wsX7_know := by decide +kernel
theorem iX7_know_6 : Cond.constant RX7 144 (-1000002) ∈ wsX7_know := by decide +kernel
set_option maxRecDepth 100000 in
set_option maxHeartbeats 4000000 in
theorem kX7_know_38 {σ : x_S} {x1 : Int32} {y0 : Int32} {y1 : Int32} (B : x_B p s m args meth c cX7_know 3 wsX7_know RX7) (G : x_H s D vwCl (s_tys cI cQ cC cZ) s_N ad (x_A s_N ad) (s_St aS) s_NW) (hr : meth.sig.returnType = (some .int)) (hf : bX7_know_38  x1 y0 y1 σ = some (r0, σ0)) : x_J p l e (x_rm 2) s m args below meth c 0 0 (MQ below (x_Qi D vwCl s_N (s_C cI cQ cC ad) ad r0 σ0) args s 0 0 (x_A s_N ad)) (x_A s_N ad) 3 (x_I D vwCl s_N (s_C cI cQ cC ad) ad σ) [(0, .ref (ad 0)), (1, .int x1)] [.int y0, .int y1] 38 := by
  unfold bX7_know_38 at hf
  refine x_icmp_ne (tgt := 44) B dX7_know_38 (by decide) (fun h1 => ?_) (fun h1 => ?_)
  · replace hf := x_if h1 hf
    refine x_aload_n B dX7_know_44 rfl 0 rfl ?_
    refine x_get (v := .ref (ad 32)) (kc := 0) (index := 26) B G.1 iX7_know_cX7 rfl (by decide) s_c0 2 (by decide) iX7_know_1 rfl dX7_know_45 ?_
    refine x_iload_n B dX7_know_48 rfl 1 rfl ?_
    obtain ⟨σ3, e2, hf⟩ := x_vs hf
    refine x_callVv (As := [.int x1]) (st := []) B G (mX2_turnKnown (l := l) G.1.2.1 s_iC32 e2) (cwV 1 B.2.2.2.2.1 gX7_know_X2_turnKnown rfl rfl rfl hdX2_turnKnown (x_rm_ok (by omega) (by decide))) (s_kC s_iC32) (s_cC s_iC32) rfl rfl rfl (Nat.le_of_ble_eq_true rfl) ⟨Nat.zero_le _, Nat.zero_le _⟩ dX7_know_49 ?_
    refine x_aload_n B dX7_know_52 rfl 0 rfl ?_
    refine x_get (v := .ref (ad 16)) (kc := 0) (index := 40) B G.1 iX7_know_cX7 rfl (by decide) s_c0 5 (by decide) iX7_know_3 rfl dX7_know_53 ?_
    refine x_iconst (v := 3) B dX7_know_56 (by decide) ?_
    refine x_iload_n B dX7_know_57 rfl 1 rfl ?_
    refine x_iconst (v := 0) B dX7_know_58 (by decide) ?_
    obtain ⟨σ5, e4, hf⟩ := x_vs hf
    refine x_callVv (As := [.int 3, .int x1, .int 0]) (st := []) B G (mX0_keep (l := l) G.1.2.1  e4) (cwV 3 B.2.2.2.2.1 gX7_know_X0_keep rfl rfl rfl hdX0_keep (x_rm_ok (by omega) (by decide))) (by decide) s_c16 rfl rfl rfl (Nat.le_of_ble_eq_true rfl) ⟨Nat.zero_le _, Nat.zero_le _⟩ dX7_know_59 ?_
    refine x_aload_n B dX7_know_62 rfl 0 rfl ?_
    refine x_get (v := .ref (ad 32)) (kc := 0) (index := 26) B G.1 iX7_know_cX7 rfl (by decide) s_c0 2 (by decide) iX7_know_1 rfl dX7_know_63 ?_
    refine x_get (v := .int (σ5 32 4)) (kc := 32) (index := 173) B G.1 iX7_know_cX2 rfl (s_kC s_iC32) (s_cC s_iC32) 4 (by decide) iX7_know_4 rfl dX7_know_66 ?_
    obtain ⟨rfl, rfl⟩ := x_retI hf
    exact x_iret B hr dX7_know_69
  · replace hf := x_it h1 hf
    refine x_ldc (v := (-1000002)) B iX7_know_6 dX7_know_41 ?_
    obtain ⟨rfl, rfl⟩ := x_retI hf
    exact x_iret B hr dX7_know_43
set_option maxRecDepth 100000 in
set_option maxHeartbeats 4000000 in
theorem mX7_know {σ : x_S} {a1 : Int32} {a2 : Int32} (hdis : x_dis s_N ad) (hf : fX7_know a1 a2 σ = some (r0, σ0)) : x_NI l yX7_know wsX7_know 2 D vwCl (s_tys cI cQ cC cZ) s_N (s_C cI cQ cC ad) ad (s_St aS) s_NW [.ref (ad 0), .int a1, .int a2] σ r0 σ0 := by
  refine x_met (cc := cX7_know) (own := RX7) (maxL := 3) (ret := (some .int)) (by decide +kernel) rfl rfl (Nat.le_of_ble_eq_true rfl) hdis (s_StOk aS) s_NwOk (fun p e s m args below meth c B G hr => ?_)
  unfold fX7_know at hf
  refine x_sub (lv' := [(0, .ref (ad 0)), (1, .int a1), (2, .int a2)]) [0, 1, 2] rfl ?_
  refine x_aload_n B dX7_know_0 rfl 0 rfl ?_
  refine x_iload_n B dX7_know_1 rfl 1 rfl ?_
  obtain ⟨r2, e1, hf⟩ := x_ps hf
  refine x_callV (As := [.int a1]) (st := []) B G (mX7_isStreet (l := l) G.1.2.1  e1) (cwV 1 B.2.2.2.2.1 gX7_know_X7_isStreet rfl rfl rfl hdX7_isStreet (x_rm_ok (by omega) (by decide))) (by decide) s_c0 rfl rfl rfl (Nat.le_of_ble_eq_true rfl) ⟨Nat.zero_le _, Nat.zero_le _⟩ dX7_know_2 ?_
  refine x_if_eq (tgt := 17) B dX7_know_5 (by decide) (fun h3 => ?_) (fun h3 => ?_)
  · replace hf := x_it h3 hf
    refine x_ldc (v := (-1000001)) B iX7_know_0 dX7_know_17 ?_
    obtain ⟨rfl, rfl⟩ := x_retI hf
    exact x_iret B hr dX7_know_19
  · replace hf := x_if h3 hf
    refine x_iload_n B dX7_know_8 rfl 2 rfl ?_
    refine x_iconst (v := 0) B dX7_know_9 (by decide) ?_
    refine x_iconst (v := 1) B dX7_know_10 (by decide) ?_
    obtain ⟨r5, e4, hf⟩ := x_ps hf
    refine x_callS (As := [.int a2, .int 0, .int 1]) (st := []) B G (mX7_isWithin (l := l) G.1.2.1  e4) (va_cwS 3 B.2.2.2.2.1 gX7_know_X7_isWithin rfl rfl rfl hdX7_isWithin (x_rm_ok (by omega) (by decide))) rfl rfl (Nat.le_of_ble_eq_true rfl) ⟨Nat.zero_le _, Nat.zero_le _⟩ dX7_know_11 ?_
    refine x_if_ne (tgt := 20) B dX7_know_14 (by decide) (fun h6 => ?_) (fun h6 => ?_)
    · replace hf := x_if h6 hf
      refine x_aload_n B dX7_know_20 rfl 0 rfl ?_
      refine x_get (v := .ref (ad 32)) (kc := 0) (index := 26) B G.1 iX7_know_cX7 rfl (by decide) s_c0 2 (by decide) iX7_know_1 rfl dX7_know_21 ?_
      refine x_iload_n B dX7_know_24 rfl 1 rfl ?_
      obtain ⟨r8, e7, hf⟩ := x_ps hf
      refine x_callV (As := [.int a1]) (st := []) B G (mX2_isKnown (l := l) G.1.2.1 s_iC32 e7) (cwV 1 B.2.2.2.2.1 gX7_know_X2_isKnown rfl rfl rfl hdX2_isKnown (x_rm_ok (by omega) (by decide))) (s_kC s_iC32) (s_cC s_iC32) rfl rfl rfl (Nat.le_of_ble_eq_true rfl) ⟨Nat.zero_le _, Nat.zero_le _⟩ dX7_know_25 ?_
      refine x_iload_n B dX7_know_28 rfl 2 rfl ?_
      refine x_iconst (v := 1) B dX7_know_29 (by decide) ?_
      refine x_icmp_ne (tgt := 37) B dX7_know_30 (by decide) (fun h9 => ?_) (fun h9 => ?_)
      · replace hf := x_if h9 hf
        refine x_iconst (v := 0) B dX7_know_37 (by decide) ?_
        refine x_sub [0, 1] rfl ?_
        exact kX7_know_38 B G hr hf
      · replace hf := x_it h9 hf
        refine x_iconst (v := 1) B dX7_know_33 (by decide) ?_
        refine x_goto (tgt := 38) B dX7_know_34 (by decide) ?_
        refine x_sub [0, 1] rfl ?_
        exact kX7_know_38 B G hr hf
    · replace hf := x_it h6 hf
      refine x_ldc (v := (-1000001)) B iX7_know_0 dX7_know_17 ?_
      obtain ⟨rfl, rfl⟩ := x_retI hf
      exact x_iret B hr dX7_know_19
theorem iX7_undo_0 : Cond.fieldLink RX7 40 "SignDuty" "acts" "LSignDuty$Acts;" ∈ wsX7_undo := by decide +kernel
theorem iX7_undo_cX7 : ∀ w ∈ u_ws RX7 TX7 9, w ∈ wsX7_undo := by decide +kernel
theorem iX7_undo_2 : Cond.fieldLink RX7 176 "SignDuty$Acts" "kept" "I" ∈ wsX7_undo := by decide +kernel
theorem iX7_undo_cX0 : ∀ w ∈ u_ws RX0 TX0 5, w ∈ wsX7_undo := by decide +kernel
theorem iX7_undo_4 : Cond.fieldLink RX7 26 "SignDuty" "city" "LSignDuty$City;" ∈ wsX7_undo := by decide +kernel
theorem iX7_undo_5 : Cond.constant RX7 144 (-1000002) ∈ wsX7_undo := by decide +kernel
set_option maxRecDepth 100000 in
set_option maxHeartbeats 4000000 in
theorem mX7_undo {σ : x_S} (hdis : x_dis s_N ad) (hf : fX7_undo  σ = some (r0, σ0)) : x_NI l yX7_undo wsX7_undo 2 D vwCl (s_tys cI cQ cC cZ) s_N (s_C cI cQ cC ad) ad (s_St aS) s_NW [.ref (ad 0)] σ r0 σ0 := by
  refine x_met (cc := cX7_undo) (own := RX7) (maxL := 1) (ret := (some .int)) (by decide +kernel) rfl rfl (Nat.le_of_ble_eq_true rfl) hdis (s_StOk aS) s_NwOk (fun p e s m args below meth c B G hr => ?_)
  unfold fX7_undo at hf
  refine x_sub (lv' := [(0, .ref (ad 0))]) [0] rfl ?_
  refine x_aload_n B dX7_undo_0 rfl 0 rfl ?_
  refine x_get (v := .ref (ad 16)) (kc := 0) (index := 40) B G.1 iX7_undo_cX7 rfl (by decide) s_c0 5 (by decide) iX7_undo_0 rfl dX7_undo_1 ?_
  refine x_get (v := .int (σ 16 4)) (kc := 16) (index := 176) B G.1 iX7_undo_cX0 rfl (by decide) s_c16 4 (by decide) iX7_undo_2 rfl dX7_undo_4 ?_
  refine x_if_ne (tgt := 13) B dX7_undo_7 (by decide) (fun h1 => ?_) (fun h1 => ?_)
  · replace hf := x_if h1 hf
    refine x_aload_n B dX7_undo_13 rfl 0 rfl ?_
    refine x_get (v := .ref (ad 16)) (kc := 0) (index := 40) B G.1 iX7_undo_cX7 rfl (by decide) s_c0 5 (by decide) iX7_undo_0 rfl dX7_undo_14 ?_
    refine x_aload_n B dX7_undo_17 rfl 0 rfl ?_
    refine x_get (v := .ref (ad 32)) (kc := 0) (index := 26) B G.1 iX7_undo_cX7 rfl (by decide) s_c0 2 (by decide) iX7_undo_4 rfl dX7_undo_18 ?_
    obtain ⟨σ3, e2, hf⟩ := x_vs hf
    refine x_callVv (As := [.ref (ad 32)]) (st := []) B G (mX0_takeBack (l := l) G.1.2.1 s_iC32 e2) (cwV 1 B.2.2.2.2.1 gX7_undo_X0_takeBack rfl rfl rfl hdX0_takeBack (x_rm_ok (by omega) (by decide))) (by decide) s_c16 rfl rfl rfl (Nat.le_of_ble_eq_true rfl) ⟨Nat.zero_le _, Nat.zero_le _⟩ dX7_undo_21 ?_
    refine x_aload_n B dX7_undo_24 rfl 0 rfl ?_
    refine x_get (v := .ref (ad 16)) (kc := 0) (index := 40) B G.1 iX7_undo_cX7 rfl (by decide) s_c0 5 (by decide) iX7_undo_0 rfl dX7_undo_25 ?_
    refine x_get (v := .int (σ3 16 4)) (kc := 16) (index := 176) B G.1 iX7_undo_cX0 rfl (by decide) s_c16 4 (by decide) iX7_undo_2 rfl dX7_undo_28 ?_
    obtain ⟨rfl, rfl⟩ := x_retI hf
    exact x_iret B hr dX7_undo_31
  · replace hf := x_it h1 hf
    refine x_ldc (v := (-1000002)) B iX7_undo_5 dX7_undo_10 ?_
    obtain ⟨rfl, rfl⟩ := x_retI hf
    exact x_iret B hr dX7_undo_12
theorem iX7_gesture_0 : Cond.fieldLink RX7 26 "SignDuty" "city" "LSignDuty$City;" ∈ wsX7_gesture := by decide +kernel
theorem iX7_gesture_cX7 : ∀ w ∈ u_ws RX7 TX7 9, w ∈ wsX7_gesture := by decide +kernel
theorem iX7_gesture_2 : Cond.fieldLink RX7 163 "SignDuty$City" "inches" "[I" ∈ wsX7_gesture := by decide +kernel
theorem iX7_gesture_cX2 : ∀ w ∈ u_ws RX2 TX2 13, w ∈ wsX7_gesture := by decide +kernel
theorem iX7_gesture_4 : Cond.fieldLink RX7 182 "SignDuty$City" "means" "[I" ∈ wsX7_gesture := by decide +kernel
theorem iX7_gesture_5 : Cond.fieldLink RX7 185 "SignDuty$City" "takes" "[I" ∈ wsX7_gesture := by decide +kernel
theorem iX7_gesture_6 : Cond.fieldLink RX7 153 "SignDuty$City" "made" "[I" ∈ wsX7_gesture := by decide +kernel
theorem iX7_gesture_7 : Cond.constant RX7 70 (-1000001) ∈ wsX7_gesture := by decide +kernel
set_option maxRecDepth 100000 in
set_option maxHeartbeats 4000000 in
theorem mX7_gesture {σ : x_S} {a1 : Int32} {a2 : Int32} (hdis : x_dis s_N ad) (hf : fX7_gesture a1 a2 σ = some r0) : x_NI l yX7_gesture wsX7_gesture 2 D vwCl (s_tys cI cQ cC cZ) s_N (s_C cI cQ cC ad) ad (s_St aS) s_NW [.ref (ad 0), .int a1, .int a2] σ r0 σ := by
  refine x_met (cc := cX7_gesture) (own := RX7) (maxL := 3) (ret := (some .int)) (by decide +kernel) rfl rfl (Nat.le_of_ble_eq_true rfl) hdis (s_StOk aS) s_NwOk (fun p e s m args below meth c B G hr => ?_)
  unfold fX7_gesture at hf
  refine x_sub (lv' := [(0, .ref (ad 0)), (1, .int a1), (2, .int a2)]) [0, 1, 2] rfl ?_
  refine x_aload_n B dX7_gesture_0 rfl 0 rfl ?_
  refine x_iload_n B dX7_gesture_1 rfl 1 rfl ?_
  obtain ⟨r2, e1, hf⟩ := x_ps hf
  refine x_callV (As := [.int a1]) (st := []) B G (mX7_isGesture (l := l) G.1.2.1  e1) (cwV 1 B.2.2.2.2.1 gX7_gesture_X7_isGesture rfl rfl rfl hdX7_isGesture (x_rm_ok (by omega) (by decide))) (by decide) s_c0 rfl rfl rfl (Nat.le_of_ble_eq_true rfl) ⟨Nat.zero_le _, Nat.zero_le _⟩ dX7_gesture_2 ?_
  refine x_if_ne (tgt := 11) B dX7_gesture_5 (by decide) (fun h3 => ?_) (fun h3 => ?_)
  · replace hf := x_if h3 hf
    refine x_iload_n B dX7_gesture_11 rfl 2 rfl ?_
    by_cases h4 : a2 = 0
    · replace hf := x_it h4 hf
      refine x_tableIn (tgt := 48) (off := 36) B dX7_gesture_12 (by rw [h4]; decide) (by rw [h4]; decide) (by rw [h4]; rfl) (by decide) ?_
      refine x_aload_n B dX7_gesture_48 rfl 0 rfl ?_
      refine x_get (v := .ref (ad 32)) (kc := 0) (index := 26) B G.1 iX7_gesture_cX7 rfl (by decide) s_c0 2 (by decide) iX7_gesture_0 rfl dX7_gesture_49 ?_
      refine x_get (v := .ref (ad 36)) (kc := 32) (index := 163) B G.1 iX7_gesture_cX2 rfl (s_kC s_iC32) (s_cC s_iC32) 9 (by decide) iX7_gesture_2 rfl dX7_gesture_52 ?_
      refine x_iload_n B dX7_gesture_55 rfl 1 rfl ?_
      obtain ⟨h5, hf⟩ := x_gs hf
      refine x_iald (kc := 36) (t0 := 0) B G.1 (s_kC4 s_iC32) (s_cC4 s_iC32) rfl h5 dX7_gesture_56 ?_
      obtain rfl := x_retP hf
      exact x_iret B hr dX7_gesture_57
    · replace hf := x_if h4 hf
      by_cases h6 : a2 = 1
      · replace hf := x_it h6 hf
        refine x_tableIn (tgt := 58) (off := 46) B dX7_gesture_12 (by rw [h6]; decide) (by rw [h6]; decide) (by rw [h6]; rfl) (by decide) ?_
        refine x_aload_n B dX7_gesture_58 rfl 0 rfl ?_
        refine x_get (v := .ref (ad 32)) (kc := 0) (index := 26) B G.1 iX7_gesture_cX7 rfl (by decide) s_c0 2 (by decide) iX7_gesture_0 rfl dX7_gesture_59 ?_
        refine x_get (v := .ref (ad 37)) (kc := 32) (index := 182) B G.1 iX7_gesture_cX2 rfl (s_kC s_iC32) (s_cC s_iC32) 10 (by decide) iX7_gesture_4 rfl dX7_gesture_62 ?_
        refine x_iload_n B dX7_gesture_65 rfl 1 rfl ?_
        obtain ⟨h7, hf⟩ := x_gs hf
        refine x_iald (kc := 37) (t0 := 0) B G.1 (s_kC5 s_iC32) (s_cC5 s_iC32) rfl h7 dX7_gesture_66 ?_
        obtain rfl := x_retP hf
        exact x_iret B hr dX7_gesture_67
      · replace hf := x_if h6 hf
        by_cases h8 : a2 = 2
        · replace hf := x_it h8 hf
          refine x_tableIn (tgt := 68) (off := 56) B dX7_gesture_12 (by rw [h8]; decide) (by rw [h8]; decide) (by rw [h8]; rfl) (by decide) ?_
          refine x_aload_n B dX7_gesture_68 rfl 0 rfl ?_
          refine x_get (v := .ref (ad 32)) (kc := 0) (index := 26) B G.1 iX7_gesture_cX7 rfl (by decide) s_c0 2 (by decide) iX7_gesture_0 rfl dX7_gesture_69 ?_
          refine x_get (v := .ref (ad 38)) (kc := 32) (index := 185) B G.1 iX7_gesture_cX2 rfl (s_kC s_iC32) (s_cC s_iC32) 11 (by decide) iX7_gesture_5 rfl dX7_gesture_72 ?_
          refine x_iload_n B dX7_gesture_75 rfl 1 rfl ?_
          obtain ⟨h9, hf⟩ := x_gs hf
          refine x_iald (kc := 38) (t0 := 0) B G.1 (s_kC6 s_iC32) (s_cC6 s_iC32) rfl h9 dX7_gesture_76 ?_
          obtain rfl := x_retP hf
          exact x_iret B hr dX7_gesture_77
        · replace hf := x_if h8 hf
          by_cases h10 : a2 = 3
          · replace hf := x_it h10 hf
            refine x_tableIn (tgt := 78) (off := 66) B dX7_gesture_12 (by rw [h10]; decide) (by rw [h10]; decide) (by rw [h10]; rfl) (by decide) ?_
            refine x_aload_n B dX7_gesture_78 rfl 0 rfl ?_
            refine x_get (v := .ref (ad 32)) (kc := 0) (index := 26) B G.1 iX7_gesture_cX7 rfl (by decide) s_c0 2 (by decide) iX7_gesture_0 rfl dX7_gesture_79 ?_
            refine x_iload_n B dX7_gesture_82 rfl 1 rfl ?_
            obtain ⟨r12, e11, hf⟩ := x_ps hf
            refine x_callV (As := [.int a1]) (st := []) B G (mX2_streetsThatSee (l := l) G.1.2.1 s_iC32 e11) (cwV 1 B.2.2.2.2.1 gX7_gesture_X2_streetsThatSee rfl rfl rfl hdX2_streetsThatSee (x_rm_ok (by omega) (by decide))) (s_kC s_iC32) (s_cC s_iC32) rfl rfl rfl (Nat.le_of_ble_eq_true rfl) ⟨Nat.zero_le _, Nat.zero_le _⟩ dX7_gesture_83 ?_
            obtain rfl := x_retP hf
            exact x_iret B hr dX7_gesture_86
          · replace hf := x_if h10 hf
            by_cases h13 : a2 = 4
            · replace hf := x_it h13 hf
              refine x_tableIn (tgt := 87) (off := 75) B dX7_gesture_12 (by rw [h13]; decide) (by rw [h13]; decide) (by rw [h13]; rfl) (by decide) ?_
              refine x_aload_n B dX7_gesture_87 rfl 0 rfl ?_
              refine x_get (v := .ref (ad 32)) (kc := 0) (index := 26) B G.1 iX7_gesture_cX7 rfl (by decide) s_c0 2 (by decide) iX7_gesture_0 rfl dX7_gesture_88 ?_
              refine x_get (v := .ref (ad 39)) (kc := 32) (index := 153) B G.1 iX7_gesture_cX2 rfl (s_kC s_iC32) (s_cC s_iC32) 12 (by decide) iX7_gesture_6 rfl dX7_gesture_91 ?_
              refine x_iload_n B dX7_gesture_94 rfl 1 rfl ?_
              obtain ⟨h14, hf⟩ := x_gs hf
              refine x_iald (kc := 39) (t0 := 0) B G.1 (s_kC7 s_iC32) (s_cC7 s_iC32) rfl h14 dX7_gesture_95 ?_
              obtain rfl := x_retP hf
              exact x_iret B hr dX7_gesture_96
            · replace hf := x_if h13 hf
              refine x_tableOut (tgt := 97) B dX7_gesture_12 (by have g0 := lv_neT (a := 0) h4 rfl; have g1 := lv_neT (a := 1) h6 rfl; have g2 := lv_neT (a := 2) h8 rfl; have g3 := lv_neT (a := 3) h10 rfl; have g4 := lv_neT (a := 4) h13 rfl; omega) (by decide) ?_
              refine x_ldc (v := (-1000001)) B iX7_gesture_7 dX7_gesture_97 ?_
              obtain rfl := x_retP hf
              exact x_iret B hr dX7_gesture_99
  · replace hf := x_it h3 hf
    refine x_ldc (v := (-1000001)) B iX7_gesture_7 dX7_gesture_8 ?_
    obtain rfl := x_retP hf
    exact x_iret B hr dX7_gesture_10
theorem iX7_street_0 : Cond.fieldLink RX7 26 "SignDuty" "city" "LSignDuty$City;" ∈ wsX7_street := by decide +kernel
theorem iX7_street_cX7 : ∀ w ∈ u_ws RX7 TX7 9, w ∈ wsX7_street := by decide +kernel
theorem iX7_street_2 : Cond.fieldLink RX7 160 "SignDuty$City" "dim" "[I" ∈ wsX7_street := by decide +kernel
theorem iX7_street_cX2 : ∀ w ∈ u_ws RX2 TX2 13, w ∈ wsX7_street := by decide +kernel
theorem iX7_street_4 : Cond.fieldLink RX7 191 "SignDuty$City" "strict" "[I" ∈ wsX7_street := by decide +kernel
theorem iX7_street_5 : Cond.constant RX7 70 (-1000001) ∈ wsX7_street := by decide +kernel
set_option maxRecDepth 100000 in
set_option maxHeartbeats 4000000 in
theorem mX7_street {σ : x_S} {a1 : Int32} {a2 : Int32} (hdis : x_dis s_N ad) (hf : fX7_street a1 a2 σ = some r0) : x_NI l yX7_street wsX7_street 2 D vwCl (s_tys cI cQ cC cZ) s_N (s_C cI cQ cC ad) ad (s_St aS) s_NW [.ref (ad 0), .int a1, .int a2] σ r0 σ := by
  refine x_met (cc := cX7_street) (own := RX7) (maxL := 3) (ret := (some .int)) (by decide +kernel) rfl rfl (Nat.le_of_ble_eq_true rfl) hdis (s_StOk aS) s_NwOk (fun p e s m args below meth c B G hr => ?_)
  unfold fX7_street at hf
  refine x_sub (lv' := [(0, .ref (ad 0)), (1, .int a1), (2, .int a2)]) [0, 1, 2] rfl ?_
  refine x_aload_n B dX7_street_0 rfl 0 rfl ?_
  refine x_iload_n B dX7_street_1 rfl 1 rfl ?_
  obtain ⟨r2, e1, hf⟩ := x_ps hf
  refine x_callV (As := [.int a1]) (st := []) B G (mX7_isStreet (l := l) G.1.2.1  e1) (cwV 1 B.2.2.2.2.1 gX7_street_X7_isStreet rfl rfl rfl hdX7_isStreet (x_rm_ok (by omega) (by decide))) (by decide) s_c0 rfl rfl rfl (Nat.le_of_ble_eq_true rfl) ⟨Nat.zero_le _, Nat.zero_le _⟩ dX7_street_2 ?_
  refine x_if_ne (tgt := 11) B dX7_street_5 (by decide) (fun h3 => ?_) (fun h3 => ?_)
  · replace hf := x_if h3 hf
    refine x_iload_n B dX7_street_11 rfl 2 rfl ?_
    by_cases h4 : a2 = 0
    · replace hf := x_it h4 hf
      refine x_tableIn (tgt := 44) (off := 32) B dX7_street_12 (by rw [h4]; decide) (by rw [h4]; decide) (by rw [h4]; rfl) (by decide) ?_
      refine x_aload_n B dX7_street_44 rfl 0 rfl ?_
      refine x_get (v := .ref (ad 32)) (kc := 0) (index := 26) B G.1 iX7_street_cX7 rfl (by decide) s_c0 2 (by decide) iX7_street_0 rfl dX7_street_45 ?_
      refine x_get (v := .ref (ad 33)) (kc := 32) (index := 160) B G.1 iX7_street_cX2 rfl (s_kC s_iC32) (s_cC s_iC32) 6 (by decide) iX7_street_2 rfl dX7_street_48 ?_
      refine x_iload_n B dX7_street_51 rfl 1 rfl ?_
      obtain ⟨h5, hf⟩ := x_gs hf
      refine x_iald (kc := 33) (t0 := 0) B G.1 (s_kC1 s_iC32) (s_cC1 s_iC32) rfl h5 dX7_street_52 ?_
      obtain rfl := x_retP hf
      exact x_iret B hr dX7_street_53
    · replace hf := x_if h4 hf
      by_cases h6 : a2 = 1
      · replace hf := x_it h6 hf
        refine x_tableIn (tgt := 54) (off := 42) B dX7_street_12 (by rw [h6]; decide) (by rw [h6]; decide) (by rw [h6]; rfl) (by decide) ?_
        refine x_aload_n B dX7_street_54 rfl 0 rfl ?_
        refine x_get (v := .ref (ad 32)) (kc := 0) (index := 26) B G.1 iX7_street_cX7 rfl (by decide) s_c0 2 (by decide) iX7_street_0 rfl dX7_street_55 ?_
        refine x_get (v := .ref (ad 34)) (kc := 32) (index := 191) B G.1 iX7_street_cX2 rfl (s_kC s_iC32) (s_cC s_iC32) 7 (by decide) iX7_street_4 rfl dX7_street_58 ?_
        refine x_iload_n B dX7_street_61 rfl 1 rfl ?_
        obtain ⟨h7, hf⟩ := x_gs hf
        refine x_iald (kc := 34) (t0 := 0) B G.1 (s_kC2 s_iC32) (s_cC2 s_iC32) rfl h7 dX7_street_62 ?_
        obtain rfl := x_retP hf
        exact x_iret B hr dX7_street_63
      · replace hf := x_if h6 hf
        by_cases h8 : a2 = 2
        · replace hf := x_it h8 hf
          refine x_tableIn (tgt := 64) (off := 52) B dX7_street_12 (by rw [h8]; decide) (by rw [h8]; decide) (by rw [h8]; rfl) (by decide) ?_
          refine x_aload_n B dX7_street_64 rfl 0 rfl ?_
          refine x_get (v := .ref (ad 32)) (kc := 0) (index := 26) B G.1 iX7_street_cX7 rfl (by decide) s_c0 2 (by decide) iX7_street_0 rfl dX7_street_65 ?_
          refine x_iload_n B dX7_street_68 rfl 1 rfl ?_
          obtain ⟨r10, e9, hf⟩ := x_ps hf
          refine x_callV (As := [.int a1]) (st := []) B G (mX2_isKnown (l := l) G.1.2.1 s_iC32 e9) (cwV 1 B.2.2.2.2.1 gX7_street_X2_isKnown rfl rfl rfl hdX2_isKnown (x_rm_ok (by omega) (by decide))) (s_kC s_iC32) (s_cC s_iC32) rfl rfl rfl (Nat.le_of_ble_eq_true rfl) ⟨Nat.zero_le _, Nat.zero_le _⟩ dX7_street_69 ?_
          refine x_if_eq (tgt := 79) B dX7_street_72 (by decide) (fun h11 => ?_) (fun h11 => ?_)
          · replace hf := x_it h11 hf
            refine x_iconst (v := 0) B dX7_street_79 (by decide) ?_
            obtain rfl := x_retP hf
            exact x_iret B hr dX7_street_80
          · replace hf := x_if h11 hf
            refine x_iconst (v := 1) B dX7_street_75 (by decide) ?_
            refine x_goto (tgt := 80) B dX7_street_76 (by decide) ?_
            obtain rfl := x_retP hf
            exact x_iret B hr dX7_street_80
        · replace hf := x_if h8 hf
          by_cases h12 : a2 = 3
          · replace hf := x_it h12 hf
            refine x_tableIn (tgt := 81) (off := 69) B dX7_street_12 (by rw [h12]; decide) (by rw [h12]; decide) (by rw [h12]; rfl) (by decide) ?_
            refine x_aload_n B dX7_street_81 rfl 0 rfl ?_
            refine x_get (v := .ref (ad 32)) (kc := 0) (index := 26) B G.1 iX7_street_cX7 rfl (by decide) s_c0 2 (by decide) iX7_street_0 rfl dX7_street_82 ?_
            refine x_iload_n B dX7_street_85 rfl 1 rfl ?_
            obtain ⟨r14, e13, hf⟩ := x_ps hf
            refine x_callV (As := [.int a1]) (st := []) B G (mX2_gesturesSeenIn (l := l) G.1.2.1 s_iC32 e13) (cwV 1 B.2.2.2.2.1 gX7_street_X2_gesturesSeenIn rfl rfl rfl hdX2_gesturesSeenIn (x_rm_ok (by omega) (by decide))) (s_kC s_iC32) (s_cC s_iC32) rfl rfl rfl (Nat.le_of_ble_eq_true rfl) ⟨Nat.zero_le _, Nat.zero_le _⟩ dX7_street_86 ?_
            obtain rfl := x_retP hf
            exact x_iret B hr dX7_street_89
          · replace hf := x_if h12 hf
            refine x_tableOut (tgt := 90) B dX7_street_12 (by have g0 := lv_neT (a := 0) h4 rfl; have g1 := lv_neT (a := 1) h6 rfl; have g2 := lv_neT (a := 2) h8 rfl; have g3 := lv_neT (a := 3) h12 rfl; omega) (by decide) ?_
            refine x_ldc (v := (-1000001)) B iX7_street_5 dX7_street_90 ?_
            obtain rfl := x_retP hf
            exact x_iret B hr dX7_street_92
  · replace hf := x_it h3 hf
    refine x_ldc (v := (-1000001)) B iX7_street_5 dX7_street_8 ?_
    obtain rfl := x_retP hf
    exact x_iret B hr dX7_street_10
theorem iX7_duty_0 : Cond.constant RX7 70 (-1000001) ∈ wsX7_duty := by decide +kernel
theorem iX7_duty_1 : Cond.fieldLink RX7 26 "SignDuty" "city" "LSignDuty$City;" ∈ wsX7_duty := by decide +kernel
theorem iX7_duty_cX7 : ∀ w ∈ u_ws RX7 TX7 9, w ∈ wsX7_duty := by decide +kernel
set_option maxRecDepth 100000 in
set_option maxHeartbeats 4000000 in
theorem mX7_duty {σ : x_S} {a1 : Int32} {a2 : Int32} (hdis : x_dis s_N ad) (hf : fX7_duty a1 a2 σ = some r0) : x_NI l yX7_duty wsX7_duty 4 D vwCl (s_tys cI cQ cC cZ) s_N (s_C cI cQ cC ad) ad (s_St aS) s_NW [.ref (ad 0), .int a1, .int a2] σ r0 σ := by
  refine x_met (cc := cX7_duty) (own := RX7) (maxL := 3) (ret := (some .int)) (by decide +kernel) rfl rfl (Nat.le_of_ble_eq_true rfl) hdis (s_StOk aS) s_NwOk (fun p e s m args below meth c B G hr => ?_)
  unfold fX7_duty at hf
  refine x_sub (lv' := [(0, .ref (ad 0)), (1, .int a1), (2, .int a2)]) [0, 1, 2] rfl ?_
  refine x_aload_n B dX7_duty_0 rfl 0 rfl ?_
  refine x_iload_n B dX7_duty_1 rfl 1 rfl ?_
  obtain ⟨r2, e1, hf⟩ := x_ps hf
  refine x_callV (As := [.int a1]) (st := []) B G (mX7_isGesture (l := l) G.1.2.1  e1) (cwV 1 B.2.2.2.2.1 gX7_duty_X7_isGesture rfl rfl rfl hdX7_isGesture (x_rm_ok (by omega) (by decide))) (by decide) s_c0 rfl rfl rfl (Nat.le_of_ble_eq_true rfl) ⟨Nat.zero_le _, Nat.zero_le _⟩ dX7_duty_2 ?_
  refine x_if_eq (tgt := 28) B dX7_duty_5 (by decide) (fun h3 => ?_) (fun h3 => ?_)
  · replace hf := x_it h3 hf
    refine x_ldc (v := (-1000001)) B iX7_duty_0 dX7_duty_28 ?_
    obtain rfl := x_retP hf
    exact x_iret B hr dX7_duty_30
  · replace hf := x_if h3 hf
    refine x_aload_n B dX7_duty_8 rfl 0 rfl ?_
    refine x_iload_n B dX7_duty_9 rfl 2 rfl ?_
    obtain ⟨r5, e4, hf⟩ := x_ps hf
    refine x_callV (As := [.int a2]) (st := []) B G (mX7_isStreet (l := l) G.1.2.1  e4) (cwV 1 B.2.2.2.2.1 gX7_duty_X7_isStreet rfl rfl rfl hdX7_isStreet (x_rm_ok (by omega) (by decide))) (by decide) s_c0 rfl rfl rfl (Nat.le_of_ble_eq_true rfl) ⟨Nat.zero_le _, Nat.zero_le _⟩ dX7_duty_10 ?_
    refine x_if_eq (tgt := 28) B dX7_duty_13 (by decide) (fun h6 => ?_) (fun h6 => ?_)
    · replace hf := x_it h6 hf
      refine x_ldc (v := (-1000001)) B iX7_duty_0 dX7_duty_28 ?_
      obtain rfl := x_retP hf
      exact x_iret B hr dX7_duty_30
    · replace hf := x_if h6 hf
      refine x_aload_n B dX7_duty_16 rfl 0 rfl ?_
      refine x_get (v := .ref (ad 32)) (kc := 0) (index := 26) B G.1 iX7_duty_cX7 rfl (by decide) s_c0 2 (by decide) iX7_duty_1 rfl dX7_duty_17 ?_
      refine x_iload_n B dX7_duty_20 rfl 1 rfl ?_
      refine x_iload_n B dX7_duty_21 rfl 2 rfl ?_
      obtain ⟨r8, e7, hf⟩ := x_ps hf
      refine x_callV (As := [.int a1, .int a2]) (st := []) B G (mX2_owes (l := l) G.1.2.1 s_iC32 e7) (cwV 2 B.2.2.2.2.1 gX7_duty_X2_owes rfl rfl rfl hdX2_owes (x_rm_ok (by omega) (by decide))) (s_kC s_iC32) (s_cC s_iC32) rfl rfl rfl (Nat.le_of_ble_eq_true rfl) ⟨Nat.zero_le _, Nat.zero_le _⟩ dX7_duty_22 ?_
      refine x_goto (tgt := 30) B dX7_duty_25 (by decide) ?_
      obtain rfl := x_retP hf
      exact x_iret B hr dX7_duty_30
set_option maxRecDepth 100000 in
set_option maxHeartbeats 4000000 in
theorem mX7_isMeaning {σ : x_S} {a0 : Int32} (hdis : x_dis s_N ad) (hf : fX7_isMeaning a0 σ = some r0) : x_NI l yX7_isMeaning wsX7_isMeaning 1 D vwCl (s_tys cI cQ cC cZ) s_N (s_C cI cQ cC ad) ad (s_St aS) s_NW [.int a0] σ r0 σ := by
  refine x_met (cc := cX7_isMeaning) (own := RX7) (maxL := 1) (ret := (some .boolean)) (by decide +kernel) rfl rfl (Nat.le_of_ble_eq_true rfl) hdis (s_StOk aS) s_NwOk (fun p e s m args below meth c B G hr => ?_)
  unfold fX7_isMeaning at hf
  refine x_sub (lv' := [(0, .int a0)]) [0] rfl ?_
  refine x_iload_n B dX7_isMeaning_0 rfl 0 rfl ?_
  refine x_iconst (v := 0) B dX7_isMeaning_1 (by decide) ?_
  refine x_iconst (v := 3) B dX7_isMeaning_2 (by decide) ?_
  obtain ⟨r2, e1, hf⟩ := x_ps hf
  refine x_callS (As := [.int a0, .int 0, .int 3]) (st := []) B G (mX7_isWithin (l := l) G.1.2.1  e1) (va_cwS 3 B.2.2.2.2.1 gX7_isMeaning_X7_isWithin rfl rfl rfl hdX7_isWithin (x_rm_ok (by omega) (by decide))) rfl rfl (Nat.le_of_ble_eq_true rfl) ⟨Nat.zero_le _, Nat.zero_le _⟩ dX7_isMeaning_3 ?_
  obtain ⟨h3, hf⟩ := x_gs hf
  obtain rfl := x_retP hf
  exact x_zret B hr h3 dX7_isMeaning_6
set_option maxRecDepth 100000 in
set_option maxHeartbeats 4000000 in
theorem mX7_isStretch {σ : x_S} {a1 : Int32} {a2 : Int32} (hdis : x_dis s_N ad) (hf : fX7_isStretch a1 a2 σ = some r0) : x_NI l yX7_isStretch wsX7_isStretch 1 D vwCl (s_tys cI cQ cC cZ) s_N (s_C cI cQ cC ad) ad (s_St aS) s_NW [.ref (ad 0), .int a1, .int a2] σ r0 σ := by
  refine x_met (cc := cX7_isStretch) (own := RX7) (maxL := 3) (ret := (some .boolean)) (by decide +kernel) rfl rfl (Nat.le_of_ble_eq_true rfl) hdis (s_StOk aS) s_NwOk (fun p e s m args below meth c B G hr => ?_)
  unfold fX7_isStretch at hf
  refine x_sub (lv' := [(0, .ref (ad 0)), (1, .int a1), (2, .int a2)]) [0, 1, 2] rfl ?_
  refine x_aload_n B dX7_isStretch_0 rfl 0 rfl ?_
  refine x_iload_n B dX7_isStretch_1 rfl 1 rfl ?_
  obtain ⟨r2, e1, hf⟩ := x_ps hf
  refine x_callV (As := [.int a1]) (st := []) B G (mX7_isStreet (l := l) G.1.2.1  e1) (cwV 1 B.2.2.2.2.1 gX7_isStretch_X7_isStreet rfl rfl rfl hdX7_isStreet (x_rm_ok (by omega) (by decide))) (by decide) s_c0 rfl rfl rfl (Nat.le_of_ble_eq_true rfl) ⟨Nat.zero_le _, Nat.zero_le _⟩ dX7_isStretch_2 ?_
  refine x_if_eq (tgt := 25) B dX7_isStretch_5 (by decide) (fun h3 => ?_) (fun h3 => ?_)
  · replace hf := x_it h3 hf
    refine x_iconst (v := 0) B dX7_isStretch_25 (by decide) ?_
    obtain rfl := x_retP hf
    exact x_zret B hr (by decide) dX7_isStretch_26
  · replace hf := x_if h3 hf
    refine x_aload_n B dX7_isStretch_8 rfl 0 rfl ?_
    refine x_iload_n B dX7_isStretch_9 rfl 2 rfl ?_
    obtain ⟨r5, e4, hf⟩ := x_ps hf
    refine x_callV (As := [.int a2]) (st := []) B G (mX7_isStreet (l := l) G.1.2.1  e4) (cwV 1 B.2.2.2.2.1 gX7_isStretch_X7_isStreet rfl rfl rfl hdX7_isStreet (x_rm_ok (by omega) (by decide))) (by decide) s_c0 rfl rfl rfl (Nat.le_of_ble_eq_true rfl) ⟨Nat.zero_le _, Nat.zero_le _⟩ dX7_isStretch_10 ?_
    refine x_if_eq (tgt := 25) B dX7_isStretch_13 (by decide) (fun h6 => ?_) (fun h6 => ?_)
    · replace hf := x_it h6 hf
      refine x_iconst (v := 0) B dX7_isStretch_25 (by decide) ?_
      obtain rfl := x_retP hf
      exact x_zret B hr (by decide) dX7_isStretch_26
    · replace hf := x_if h6 hf
      refine x_iload_n B dX7_isStretch_16 rfl 1 rfl ?_
      refine x_iload_n B dX7_isStretch_17 rfl 2 rfl ?_
      refine x_icmp_gt (tgt := 25) B dX7_isStretch_18 (by decide) (fun h7 => ?_) (fun h7 => ?_)
      · replace hf := x_it h7 hf
        refine x_iconst (v := 0) B dX7_isStretch_25 (by decide) ?_
        obtain rfl := x_retP hf
        exact x_zret B hr (by decide) dX7_isStretch_26
      · replace hf := x_if h7 hf
        refine x_iconst (v := 1) B dX7_isStretch_21 (by decide) ?_
        refine x_goto (tgt := 26) B dX7_isStretch_22 (by decide) ?_
        obtain rfl := x_retP hf
        exact x_zret B hr (by decide) dX7_isStretch_26
theorem iX7_tell_0 : Cond.constant RX7 70 (-1000001) ∈ wsX7_tell := by decide +kernel
theorem iX7_tell_1 : Cond.fieldLink RX7 47 "SignDuty" "teller" "LSignDuty$Teller;" ∈ wsX7_tell := by decide +kernel
theorem iX7_tell_cX7 : ∀ w ∈ u_ws RX7 TX7 9, w ∈ wsX7_tell := by decide +kernel
theorem iX7_tell_3 : Cond.fieldLink RX7 26 "SignDuty" "city" "LSignDuty$City;" ∈ wsX7_tell := by decide +kernel
set_option maxRecDepth 100000 in
set_option maxHeartbeats 4000000 in
theorem mX7_tell {σ : x_S} {a1 : Int32} {a2 : Int32} {a3 : Int32} {a4 : Int32} {a5 : Int32} (hdis : x_dis s_N ad) (hf : fX7_tell a1 a2 a3 a4 a5 σ = some (r0, σ0)) : x_NI l yX7_tell wsX7_tell 6 D vwCl (s_tys cI cQ cC cZ) s_N (s_C cI cQ cC ad) ad (s_St aS) s_NW [.ref (ad 0), .int a1, .int a2, .int a3, .int a4, .int a5] σ r0 σ0 := by
  refine x_met (cc := cX7_tell) (own := RX7) (maxL := 6) (ret := (some .int)) (by decide +kernel) rfl rfl (Nat.le_of_ble_eq_true rfl) hdis (s_StOk aS) s_NwOk (fun p e s m args below meth c B G hr => ?_)
  unfold fX7_tell at hf
  refine x_sub (lv' := [(0, .ref (ad 0)), (1, .int a1), (2, .int a2), (3, .int a3), (4, .int a4), (5, .int a5)]) [0, 1, 2, 3, 4, 5] rfl ?_
  refine x_iload_n B dX7_tell_0 rfl 1 rfl ?_
  obtain ⟨r2, e1, hf⟩ := x_ps hf
  refine x_callS (As := [.int a1]) (st := []) B G (mX7_isMeaning (l := l) G.1.2.1  e1) (va_cwS 1 B.2.2.2.2.1 gX7_tell_X7_isMeaning rfl rfl rfl hdX7_isMeaning (x_rm_ok (by omega) (by decide))) rfl rfl (Nat.le_of_ble_eq_true rfl) ⟨Nat.zero_le _, Nat.zero_le _⟩ dX7_tell_1 ?_
  refine x_if_eq (tgt := 38) B dX7_tell_4 (by decide) (fun h3 => ?_) (fun h3 => ?_)
  · replace hf := x_it h3 hf
    refine x_ldc (v := (-1000001)) B iX7_tell_0 dX7_tell_38 ?_
    obtain ⟨rfl, rfl⟩ := x_retI hf
    exact x_iret B hr dX7_tell_40
  · replace hf := x_if h3 hf
    refine x_aload_n B dX7_tell_7 rfl 0 rfl ?_
    refine x_iload_n B dX7_tell_8 rfl 2 rfl ?_
    refine x_iload_n B dX7_tell_9 rfl 3 rfl ?_
    obtain ⟨r5, e4, hf⟩ := x_ps hf
    refine x_callV (As := [.int a2, .int a3]) (st := []) B G (mX7_isStretch (l := l) G.1.2.1  e4) (cwV 2 B.2.2.2.2.1 gX7_tell_X7_isStretch rfl rfl rfl hdX7_isStretch (x_rm_ok (by omega) (by decide))) (by decide) s_c0 rfl rfl rfl (Nat.le_of_ble_eq_true rfl) ⟨Nat.zero_le _, Nat.zero_le _⟩ dX7_tell_10 ?_
    refine x_if_eq (tgt := 38) B dX7_tell_13 (by decide) (fun h6 => ?_) (fun h6 => ?_)
    · replace hf := x_it h6 hf
      refine x_ldc (v := (-1000001)) B iX7_tell_0 dX7_tell_38 ?_
      obtain ⟨rfl, rfl⟩ := x_retI hf
      exact x_iret B hr dX7_tell_40
    · replace hf := x_if h6 hf
      refine x_iload B dX7_tell_16 4 rfl ?_
      refine x_iconst (v := 0) B dX7_tell_18 (by decide) ?_
      refine x_bipush (v := 99) B dX7_tell_19 (by decide) ?_
      obtain ⟨r8, e7, hf⟩ := x_ps hf
      refine x_callS (As := [.int a4, .int 0, .int 99]) (st := []) B G (mX7_isWithin (l := l) G.1.2.1  e7) (va_cwS 3 B.2.2.2.2.1 gX7_tell_X7_isWithin rfl rfl rfl hdX7_isWithin (x_rm_ok (by omega) (by decide))) rfl rfl (Nat.le_of_ble_eq_true rfl) ⟨Nat.zero_le _, Nat.zero_le _⟩ dX7_tell_21 ?_
      refine x_if_eq (tgt := 38) B dX7_tell_24 (by decide) (fun h9 => ?_) (fun h9 => ?_)
      · replace hf := x_it h9 hf
        refine x_ldc (v := (-1000001)) B iX7_tell_0 dX7_tell_38 ?_
        obtain ⟨rfl, rfl⟩ := x_retI hf
        exact x_iret B hr dX7_tell_40
      · replace hf := x_if h9 hf
        refine x_iload B dX7_tell_27 5 rfl ?_
        refine x_iconst (v := (-1)) B dX7_tell_29 (by decide) ?_
        refine x_bipush (v := 6) B dX7_tell_30 (by decide) ?_
        obtain ⟨r11, e10, hf⟩ := x_ps hf
        refine x_callS (As := [.int a5, .int (-1), .int 6]) (st := []) B G (mX7_isWithin (l := l) G.1.2.1  e10) (va_cwS 3 B.2.2.2.2.1 gX7_tell_X7_isWithin rfl rfl rfl hdX7_isWithin (x_rm_ok (by omega) (by decide))) rfl rfl (Nat.le_of_ble_eq_true rfl) ⟨Nat.zero_le _, Nat.zero_le _⟩ dX7_tell_32 ?_
        refine x_if_ne (tgt := 41) B dX7_tell_35 (by decide) (fun h12 => ?_) (fun h12 => ?_)
        · replace hf := x_if h12 hf
          refine x_iload B dX7_tell_41 5 rfl ?_
          refine x_if_ge (tgt := 65) B dX7_tell_43 (by decide) (fun h13 => ?_) (fun h13 => ?_)
          · replace hf := x_it h13 hf
            refine x_aload_n B dX7_tell_65 rfl 0 rfl ?_
            refine x_get (v := .ref (ad 20)) (kc := 0) (index := 47) B G.1 iX7_tell_cX7 rfl (by decide) s_c0 6 (by decide) iX7_tell_1 rfl dX7_tell_66 ?_
            refine x_aload_n B dX7_tell_69 rfl 0 rfl ?_
            refine x_get (v := .ref (ad 32)) (kc := 0) (index := 26) B G.1 iX7_tell_cX7 rfl (by decide) s_c0 2 (by decide) iX7_tell_3 rfl dX7_tell_70 ?_
            refine x_iload_n B dX7_tell_73 rfl 1 rfl ?_
            refine x_iload_n B dX7_tell_74 rfl 2 rfl ?_
            refine x_iload_n B dX7_tell_75 rfl 3 rfl ?_
            refine x_iload B dX7_tell_76 4 rfl ?_
            refine x_iload B dX7_tell_78 5 rfl ?_
            obtain ⟨r15, σ16, e14, hf⟩ := x_bs hf
            refine x_callV (As := [.ref (ad 32), .int a1, .int a2, .int a3, .int a4, .int a5]) (st := []) B G (mX6_gestureOfCheapest (l := l) G.1.2.1 s_iC32 e14) (cwV 6 B.2.2.2.2.1 gX7_tell_X6_gestureOfCheapest rfl rfl rfl hdX6_gestureOfCheapest (x_rm_ok (by omega) (by decide))) (by decide) s_c20 rfl rfl rfl (Nat.le_of_ble_eq_true rfl) ⟨Nat.zero_le _, Nat.zero_le _⟩ dX7_tell_80 ?_
            obtain ⟨rfl, rfl⟩ := x_retI hf
            exact x_iret B hr dX7_tell_83
          · replace hf := x_if h13 hf
            refine x_aload_n B dX7_tell_46 rfl 0 rfl ?_
            refine x_get (v := .ref (ad 20)) (kc := 0) (index := 47) B G.1 iX7_tell_cX7 rfl (by decide) s_c0 6 (by decide) iX7_tell_1 rfl dX7_tell_47 ?_
            refine x_aload_n B dX7_tell_50 rfl 0 rfl ?_
            refine x_get (v := .ref (ad 32)) (kc := 0) (index := 26) B G.1 iX7_tell_cX7 rfl (by decide) s_c0 2 (by decide) iX7_tell_3 rfl dX7_tell_51 ?_
            refine x_iload_n B dX7_tell_54 rfl 1 rfl ?_
            refine x_iload_n B dX7_tell_55 rfl 2 rfl ?_
            refine x_iload_n B dX7_tell_56 rfl 3 rfl ?_
            refine x_iload B dX7_tell_57 4 rfl ?_
            obtain ⟨r18, σ19, e17, hf⟩ := x_bs hf
            refine x_callV (As := [.ref (ad 32), .int a1, .int a2, .int a3, .int a4]) (st := []) B G (mX6_leastDuty (l := l) G.1.2.1 s_iC32 e17) (cwV 5 B.2.2.2.2.1 gX7_tell_X6_leastDuty rfl rfl rfl hdX6_leastDuty (x_rm_ok (by omega) (by decide))) (by decide) s_c20 rfl rfl rfl (Nat.le_of_ble_eq_true rfl) ⟨Nat.zero_le _, Nat.zero_le _⟩ dX7_tell_59 ?_
            refine x_goto (tgt := 83) B dX7_tell_62 (by decide) ?_
            obtain ⟨rfl, rfl⟩ := x_retI hf
            exact x_iret B hr dX7_tell_83
        · replace hf := x_it h12 hf
          refine x_ldc (v := (-1000001)) B iX7_tell_0 dX7_tell_38 ?_
          obtain ⟨rfl, rfl⟩ := x_retI hf
          exact x_iret B hr dX7_tell_40
theorem iX7_shut_0 : Cond.fieldLink RX7 26 "SignDuty" "city" "LSignDuty$City;" ∈ wsX7_shut := by decide +kernel
theorem iX7_shut_cX7 : ∀ w ∈ u_ws RX7 TX7 9, w ∈ wsX7_shut := by decide +kernel
theorem iX7_shut_2 : Cond.fieldLink RX7 211 "SignDuty$City" "stands" "Z" ∈ wsX7_shut := by decide +kernel
theorem iX7_shut_cX2 : ∀ w ∈ u_ws RX2 TX2 13, w ∈ wsX7_shut := by decide +kernel
theorem iX7_shut_4 : Cond.constant RX7 70 (-1000001) ∈ wsX7_shut := by decide +kernel
theorem iX7_shut_5 : Cond.constant RX7 144 (-1000002) ∈ wsX7_shut := by decide +kernel
set_option maxRecDepth 100000 in
set_option maxHeartbeats 4000000 in
theorem mX7_shut {σ : x_S} {a1 : Int32} (hdis : x_dis s_N ad) (hf : fX7_shut a1 σ = some r0) : x_NI l yX7_shut wsX7_shut 4 D vwCl (s_tys cI cQ cC cZ) s_N (s_C cI cQ cC ad) ad (s_St aS) s_NW [.ref (ad 0), .int a1] σ r0 σ := by
  refine x_met (cc := cX7_shut) (own := RX7) (maxL := 2) (ret := (some .int)) (by decide +kernel) rfl rfl (Nat.le_of_ble_eq_true rfl) hdis (s_StOk aS) s_NwOk (fun p e s m args below meth c B G hr => ?_)
  unfold fX7_shut at hf
  refine x_sub (lv' := [(0, .ref (ad 0)), (1, .int a1)]) [0, 1] rfl ?_
  refine x_aload_n B dX7_shut_0 rfl 0 rfl ?_
  refine x_get (v := .ref (ad 32)) (kc := 0) (index := 26) B G.1 iX7_shut_cX7 rfl (by decide) s_c0 2 (by decide) iX7_shut_0 rfl dX7_shut_1 ?_
  refine x_get (v := .int (σ 32 0)) (kc := 32) (index := 211) B G.1 iX7_shut_cX2 rfl (s_kC s_iC32) (s_cC s_iC32) 0 (by decide) iX7_shut_2 rfl dX7_shut_4 ?_
  refine x_if_ne (tgt := 13) B dX7_shut_7 (by decide) (fun h1 => ?_) (fun h1 => ?_)
  · replace hf := x_if h1 hf
    refine x_iload_n B dX7_shut_13 rfl 1 rfl ?_
    obtain ⟨r3, e2, hf⟩ := x_ps hf
    refine x_callS (As := [.int a1]) (st := []) B G (mX7_isMeaning (l := l) G.1.2.1  e2) (va_cwS 1 B.2.2.2.2.1 gX7_shut_X7_isMeaning rfl rfl rfl hdX7_isMeaning (x_rm_ok (by omega) (by decide))) rfl rfl (Nat.le_of_ble_eq_true rfl) ⟨Nat.zero_le _, Nat.zero_le _⟩ dX7_shut_14 ?_
    refine x_if_eq (tgt := 31) B dX7_shut_17 (by decide) (fun h4 => ?_) (fun h4 => ?_)
    · replace hf := x_it h4 hf
      refine x_ldc (v := (-1000001)) B iX7_shut_4 dX7_shut_31 ?_
      obtain rfl := x_retP hf
      exact x_iret B hr dX7_shut_33
    · replace hf := x_if h4 hf
      refine x_aload_n B dX7_shut_20 rfl 0 rfl ?_
      refine x_get (v := .ref (ad 32)) (kc := 0) (index := 26) B G.1 iX7_shut_cX7 rfl (by decide) s_c0 2 (by decide) iX7_shut_0 rfl dX7_shut_21 ?_
      refine x_iload_n B dX7_shut_24 rfl 1 rfl ?_
      obtain ⟨r6, e5, hf⟩ := x_ps hf
      refine x_callV (As := [.int a1]) (st := []) B G (mX2_streetsWithout (l := l) G.1.2.1 s_iC32 e5) (cwV 1 B.2.2.2.2.1 gX7_shut_X2_streetsWithout rfl rfl rfl hdX2_streetsWithout (x_rm_ok (by omega) (by decide))) (s_kC s_iC32) (s_cC s_iC32) rfl rfl rfl (Nat.le_of_ble_eq_true rfl) ⟨Nat.zero_le _, Nat.zero_le _⟩ dX7_shut_25 ?_
      refine x_goto (tgt := 33) B dX7_shut_28 (by decide) ?_
      obtain rfl := x_retP hf
      exact x_iret B hr dX7_shut_33
  · replace hf := x_it h1 hf
    refine x_ldc (v := (-1000002)) B iX7_shut_5 dX7_shut_10 ?_
    obtain rfl := x_retP hf
    exact x_iret B hr dX7_shut_12
theorem iX7_quick_0 : Cond.constant RX7 70 (-1000001) ∈ wsX7_quick := by decide +kernel
theorem iX7_quick_1 : Cond.fieldLink RX7 26 "SignDuty" "city" "LSignDuty$City;" ∈ wsX7_quick := by decide +kernel
theorem iX7_quick_cX7 : ∀ w ∈ u_ws RX7 TX7 9, w ∈ wsX7_quick := by decide +kernel
theorem iX7_quick_3 : Cond.constant RX7 221 (-1000000) ∈ wsX7_quick := by decide +kernel
set_option maxRecDepth 100000 in
set_option maxHeartbeats 4000000 in
theorem qX7_quick_25 {σ : x_S} {x1 : Int32} {x3 : Int32} {x4 : Int32} {x5 : Int32} {K25 : Int32 → Int32 → Option Int32} (B : x_B p s m args meth c cX7_quick 7 wsX7_quick RX7) (G : x_H s D vwCl (s_tys cI cQ cC cZ) s_N ad (x_A s_N ad) (s_St aS) s_NW) (hr : meth.sig.returnType = (some .int)) (hK25 : ∀ (x4 : Int32) (x5 : Int32), K25 x4 x5 = some r0 → x_J p l e (x_rm 3) s m args below meth c 0 0 (MQ below (x_Qi D vwCl s_N (s_C cI cQ cC ad) ad r0 σ) args s 0 0 (x_A s_N ad)) (x_A s_N ad) 7 (x_I D vwCl s_N (s_C cI cQ cC ad) ad σ) [(0, .ref (ad 0)), (1, .int x1), (3, .int x3), (4, .int x4), (5, .int x5)] [] 25) (hf : gX7_quick_25  x1 x3 K25 x4 x5 σ = some r0) : x_J p l e (x_rm 3) s m args below meth c 0 0 (MQ below (x_Qi D vwCl s_N (s_C cI cQ cC ad) ad r0 σ) args s 0 0 (x_A s_N ad)) (x_A s_N ad) 7 (x_I D vwCl s_N (s_C cI cQ cC ad) ad σ) [(0, .ref (ad 0)), (1, .int x1), (3, .int x3), (4, .int x4), (5, .int x5)] [] 25 := by
  unfold gX7_quick_25 at hf
  refine x_iload B dX7_quick_25 4 rfl ?_
  refine x_iload_n B dX7_quick_27 rfl 2 rfl ?_
  refine x_icmp_gt (tgt := 66) B dX7_quick_28 (by decide) (fun h1 => ?_) (fun h1 => ?_)
  · replace hf := x_it h1 hf
    refine x_iload B dX7_quick_66 3 rfl ?_
    obtain rfl := x_retP hf
    exact x_iret B hr dX7_quick_68
  · replace hf := x_if h1 hf
    refine x_aload_n B dX7_quick_31 rfl 0 rfl ?_
    refine x_get (v := .ref (ad 32)) (kc := 0) (index := 26) B G.1 iX7_quick_cX7 rfl (by decide) s_c0 2 (by decide) iX7_quick_1 rfl dX7_quick_32 ?_
    refine x_iload_n B dX7_quick_35 rfl 1 rfl ?_
    refine x_iload B dX7_quick_36 4 rfl ?_
    obtain ⟨r3, e2, hf⟩ := x_ps hf
    refine x_callV (As := [.int x1, .int x5]) (st := []) B G (mX2_leastTime (l := l) G.1.2.1 s_iC32 e2) (cwV 2 B.2.2.2.2.1 gX7_quick_X2_leastTime rfl rfl rfl hdX2_leastTime (x_rm_ok (by omega) (by decide))) (s_kC s_iC32) (s_cC s_iC32) rfl rfl rfl (Nat.le_of_ble_eq_true rfl) ⟨Nat.zero_le _, Nat.zero_le _⟩ dX7_quick_38 ?_
    refine x_istore (lv' := [(6, .int r3), (0, .ref (ad 0)), (1, .int x1), (3, .int x3), (4, .int x4), (5, .int x5)]) B dX7_quick_41 (by decide) rfl ?_
    refine x_iload B dX7_quick_43 0 rfl ?_
    refine x_ldc (v := (-1000000)) B iX7_quick_3 dX7_quick_45 ?_
    refine x_icmp_ne (tgt := 53) B dX7_quick_47 (by decide) (fun h4 => ?_) (fun h4 => ?_)
    · replace hf := x_if h4 hf
      refine x_iload B dX7_quick_53 4 rfl ?_
      refine x_iload B dX7_quick_55 0 rfl ?_
      refine x_iadd B dX7_quick_57 ?_
      refine x_istore (lv' := [(4, .int (x4 + r3)), (6, .int r3), (0, .ref (ad 0)), (1, .int x1), (3, .int x3), (5, .int x5)]) B dX7_quick_58 (by decide) rfl ?_
      refine x_iinc (v := (x5 + 1)) (lv' := [(5, .int (x5 + 1)), (4, .int (x4 + r3)), (6, .int r3), (0, .ref (ad 0)), (1, .int x1), (3, .int x3)]) B dX7_quick_60 5 rfl rfl (by decide) rfl ?_
      refine x_goto (tgt := 25) B dX7_quick_63 (by decide) ?_
      refine x_sub [3, 4, 5, 1, 0] rfl ?_
      exact hK25 _ _ hf
    · replace hf := x_it h4 hf
      refine x_ldc (v := (-1000000)) B iX7_quick_3 dX7_quick_50 ?_
      obtain rfl := x_retP hf
      exact x_iret B hr dX7_quick_52
set_option maxRecDepth 100000 in
set_option maxHeartbeats 4000000 in
theorem kX7_quick_25 {σ : x_S} {x1 : Int32} {x3 : Int32} {x4 : Int32} {x5 : Int32} (B : x_B p s m args meth c cX7_quick 7 wsX7_quick RX7) (G : x_H s D vwCl (s_tys cI cQ cC cZ) s_N ad (x_A s_N ad) (s_St aS) s_NW) (hr : meth.sig.returnType = (some .int)) (hf : bX7_quick_25  x1 x3 x4 x5 σ = some r0) : x_J p l e (x_rm 3) s m args below meth c 0 0 (MQ below (x_Qi D vwCl s_N (s_C cI cQ cC ad) ad r0 σ) args s 0 0 (x_A s_N ad)) (x_A s_N ad) 7 (x_I D vwCl s_N (s_C cI cQ cC ad) ad σ) [(0, .ref (ad 0)), (1, .int x1), (3, .int x3), (4, .int x4), (5, .int x5)] [] 25 := by
  have key : ∀ (n : Nat) (x4 : Int32) (x5 : Int32), x_fx (α := Int32 → Int32 → Option Int32) (fun _ _ => none) (fun K => fun x4 x5 => gX7_quick_25  x1 x3 K x4 x5 σ) n x4 x5 = some r0 → x_J p l e (x_rm 3) s m args below meth c 0 0 (MQ below (x_Qi D vwCl s_N (s_C cI cQ cC ad) ad r0 σ) args s 0 0 (x_A s_N ad)) (x_A s_N ad) 7 (x_I D vwCl s_N (s_C cI cQ cC ad) ad σ) [(0, .ref (ad 0)), (1, .int x1), (3, .int x3), (4, .int x4), (5, .int x5)] [] 25 := by
    intro n
    induction n with
    | zero => intro x4 x5 h; cases h
    | succ n ih => intro x4 x5 h; exact qX7_quick_25 B G hr  ih  h
  exact key x_F x4 x5 hf
set_option maxRecDepth 100000 in
set_option maxHeartbeats 4000000 in
theorem mX7_quick {σ : x_S} {a1 : Int32} {a2 : Int32} {a3 : Int32} (hdis : x_dis s_N ad) (hf : fX7_quick a1 a2 a3 σ = some r0) : x_NI l yX7_quick wsX7_quick 3 D vwCl (s_tys cI cQ cC cZ) s_N (s_C cI cQ cC ad) ad (s_St aS) s_NW [.ref (ad 0), .int a1, .int a2, .int a3] σ r0 σ := by
  refine x_met (cc := cX7_quick) (own := RX7) (maxL := 7) (ret := (some .int)) (by decide +kernel) rfl rfl (Nat.le_of_ble_eq_true rfl) hdis (s_StOk aS) s_NwOk (fun p e s m args below meth c B G hr => ?_)
  unfold fX7_quick at hf
  refine x_sub (lv' := [(0, .ref (ad 0)), (1, .int a1), (2, .int a2), (3, .int a3)]) [0, 1, 2, 3] rfl ?_
  refine x_iload_n B dX7_quick_0 rfl 1 rfl ?_
  obtain ⟨r2, e1, hf⟩ := x_ps hf
  refine x_callS (As := [.int a1]) (st := []) B G (mX7_isMeaning (l := l) G.1.2.1  e1) (va_cwS 1 B.2.2.2.2.1 gX7_quick_X7_isMeaning rfl rfl rfl hdX7_isMeaning (x_rm_ok (by omega) (by decide))) rfl rfl (Nat.le_of_ble_eq_true rfl) ⟨Nat.zero_le _, Nat.zero_le _⟩ dX7_quick_1 ?_
  refine x_if_eq (tgt := 16) B dX7_quick_4 (by decide) (fun h3 => ?_) (fun h3 => ?_)
  · replace hf := x_it h3 hf
    refine x_ldc (v := (-1000001)) B iX7_quick_0 dX7_quick_16 ?_
    obtain rfl := x_retP hf
    exact x_iret B hr dX7_quick_18
  · replace hf := x_if h3 hf
    refine x_aload_n B dX7_quick_7 rfl 0 rfl ?_
    refine x_iload_n B dX7_quick_8 rfl 2 rfl ?_
    refine x_iload_n B dX7_quick_9 rfl 3 rfl ?_
    obtain ⟨r5, e4, hf⟩ := x_ps hf
    refine x_callV (As := [.int a2, .int a3]) (st := []) B G (mX7_isStretch (l := l) G.1.2.1  e4) (cwV 2 B.2.2.2.2.1 gX7_quick_X7_isStretch rfl rfl rfl hdX7_isStretch (x_rm_ok (by omega) (by decide))) (by decide) s_c0 rfl rfl rfl (Nat.le_of_ble_eq_true rfl) ⟨Nat.zero_le _, Nat.zero_le _⟩ dX7_quick_10 ?_
    refine x_if_ne (tgt := 19) B dX7_quick_13 (by decide) (fun h6 => ?_) (fun h6 => ?_)
    · replace hf := x_if h6 hf
      refine x_iconst (v := 0) B dX7_quick_19 (by decide) ?_
      refine x_istore (lv' := [(4, .int 0), (0, .ref (ad 0)), (1, .int a1), (2, .int a2), (3, .int a3)]) B dX7_quick_20 (by decide) rfl ?_
      refine x_iload_n B dX7_quick_22 rfl 3 rfl ?_
      refine x_istore (lv' := [(5, .int a2), (4, .int 0), (0, .ref (ad 0)), (1, .int a1), (2, .int a2), (3, .int a3)]) B dX7_quick_23 (by decide) rfl ?_
      refine x_sub [2, 3, 5, 1, 0] rfl ?_
      exact kX7_quick_25 B G hr hf
    · replace hf := x_it h6 hf
      refine x_ldc (v := (-1000001)) B iX7_quick_0 dX7_quick_16 ?_
      obtain rfl := x_retP hf
      exact x_iret B hr dX7_quick_18
theorem iX7_refusalOfThread_0 : Cond.constant RX7 70 (-1000001) ∈ wsX7_refusalOfThread := by decide +kernel
theorem iX7_refusalOfThread_1 : Cond.fieldLink RX7 10 "SignDuty" "rows" "LSignDuty$Rows;" ∈ wsX7_refusalOfThread := by decide +kernel
theorem iX7_refusalOfThread_cX7 : ∀ w ∈ u_ws RX7 TX7 9, w ∈ wsX7_refusalOfThread := by decide +kernel
set_option maxRecDepth 100000 in
set_option maxHeartbeats 4000000 in
theorem qX7_refusalOfThread_49 {σ : x_S} {x1 : Int32} {x2 : Int32} {x3 : Int32} {x5 : Int32} {K49 : Int32 → x_S → Option (Int32 × x_S)} (B : x_B p s m args meth c cX7_refusalOfThread 6 wsX7_refusalOfThread RX7) (G : x_H s D vwCl (s_tys cI cQ cC cZ) s_N ad (x_A s_N ad) (s_St aS) s_NW) (hr : meth.sig.returnType = (some .int)) (hK49 : ∀ (x5 : Int32) (σ : x_S), K49 x5 σ = some (r0, σ0) → x_J p l e (x_rm 2) s m args below meth c 0 0 (MQ below (x_Qi D vwCl s_N (s_C cI cQ cC ad) ad r0 σ0) args s 0 0 (x_A s_N ad)) (x_A s_N ad) 6 (x_I D vwCl s_N (s_C cI cQ cC ad) ad σ) [(0, .ref (ad 0)), (1, .int x1), (2, .int x2), (3, .int x3), (5, .int x5)] [] 49) (hf : gX7_refusalOfThread_49  x1 x2 x3 K49 x5 σ = some (r0, σ0)) : x_J p l e (x_rm 2) s m args below meth c 0 0 (MQ below (x_Qi D vwCl s_N (s_C cI cQ cC ad) ad r0 σ0) args s 0 0 (x_A s_N ad)) (x_A s_N ad) 6 (x_I D vwCl s_N (s_C cI cQ cC ad) ad σ) [(0, .ref (ad 0)), (1, .int x1), (2, .int x2), (3, .int x3), (5, .int x5)] [] 49 := by
  unfold gX7_refusalOfThread_49 at hf
  refine x_iload B dX7_refusalOfThread_49 4 rfl ?_
  refine x_iload_n B dX7_refusalOfThread_51 rfl 3 rfl ?_
  refine x_icmp_ge (tgt := 85) B dX7_refusalOfThread_52 (by decide) (fun h1 => ?_) (fun h1 => ?_)
  · replace hf := x_it h1 hf
    refine x_iconst (v := 0) B dX7_refusalOfThread_85 (by decide) ?_
    obtain ⟨rfl, rfl⟩ := x_retI hf
    exact x_iret B hr dX7_refusalOfThread_86
  · replace hf := x_if h1 hf
    refine x_aload_n B dX7_refusalOfThread_55 rfl 0 rfl ?_
    refine x_aload_n B dX7_refusalOfThread_56 rfl 0 rfl ?_
    refine x_get (v := .ref (ad 1)) (kc := 0) (index := 10) B G.1 iX7_refusalOfThread_cX7 rfl (by decide) s_c0 0 (by decide) iX7_refusalOfThread_1 rfl dX7_refusalOfThread_57 ?_
    refine x_iload_n B dX7_refusalOfThread_60 rfl 1 rfl ?_
    refine x_iload_n B dX7_refusalOfThread_61 rfl 2 rfl ?_
    refine x_iconst (v := 2) B dX7_refusalOfThread_62 (by decide) ?_
    refine x_iload B dX7_refusalOfThread_63 4 rfl ?_
    refine x_imul B dX7_refusalOfThread_65 ?_
    refine x_iadd B dX7_refusalOfThread_66 ?_
    obtain ⟨r3, e2, hf⟩ := x_ps hf
    refine x_callV (As := [.int x1, .int (x2 + (2 * x5))]) (st := [.ref (ad 0)]) B G (mX5_at (l := l) G.1.2.1  e2) (cwV 2 B.2.2.2.2.1 gX7_refusalOfThread_X5_at rfl rfl rfl hdX5_at (x_rm_ok (by omega) (by decide))) (by decide) s_c1 rfl rfl rfl (Nat.le_of_ble_eq_true rfl) ⟨Nat.zero_le _, Nat.zero_le _⟩ dX7_refusalOfThread_67 ?_
    obtain ⟨r5, e4, hf⟩ := x_ps hf
    refine x_callV (As := [.int r3]) (st := []) B G (mX7_isStreet (l := l) G.1.2.1  e4) (cwV 1 B.2.2.2.2.1 gX7_refusalOfThread_X7_isStreet rfl rfl rfl hdX7_isStreet (x_rm_ok (by omega) (by decide))) (by decide) s_c0 rfl rfl rfl (Nat.le_of_ble_eq_true rfl) ⟨Nat.zero_le _, Nat.zero_le _⟩ dX7_refusalOfThread_70 ?_
    refine x_if_ne (tgt := 79) B dX7_refusalOfThread_73 (by decide) (fun h6 => ?_) (fun h6 => ?_)
    · replace hf := x_if h6 hf
      refine x_iinc (v := (x5 + 1)) (lv' := [(5, .int (x5 + 1)), (0, .ref (ad 0)), (1, .int x1), (2, .int x2), (3, .int x3)]) B dX7_refusalOfThread_79 4 rfl rfl (by decide) rfl ?_
      refine x_goto (tgt := 49) B dX7_refusalOfThread_82 (by decide) ?_
      refine x_sub [1, 2, 3, 4, 0] rfl ?_
      exact hK49 _ _ hf
    · replace hf := x_it h6 hf
      refine x_ldc (v := (-1000001)) B iX7_refusalOfThread_0 dX7_refusalOfThread_76 ?_
      obtain ⟨rfl, rfl⟩ := x_retI hf
      exact x_iret B hr dX7_refusalOfThread_78
set_option maxRecDepth 100000 in
set_option maxHeartbeats 4000000 in
theorem kX7_refusalOfThread_49 {σ : x_S} {x1 : Int32} {x2 : Int32} {x3 : Int32} {x5 : Int32} (B : x_B p s m args meth c cX7_refusalOfThread 6 wsX7_refusalOfThread RX7) (G : x_H s D vwCl (s_tys cI cQ cC cZ) s_N ad (x_A s_N ad) (s_St aS) s_NW) (hr : meth.sig.returnType = (some .int)) (hf : bX7_refusalOfThread_49  x1 x2 x3 x5 σ = some (r0, σ0)) : x_J p l e (x_rm 2) s m args below meth c 0 0 (MQ below (x_Qi D vwCl s_N (s_C cI cQ cC ad) ad r0 σ0) args s 0 0 (x_A s_N ad)) (x_A s_N ad) 6 (x_I D vwCl s_N (s_C cI cQ cC ad) ad σ) [(0, .ref (ad 0)), (1, .int x1), (2, .int x2), (3, .int x3), (5, .int x5)] [] 49 := by
  have key : ∀ (n : Nat) (x5 : Int32) (σ : x_S), x_fx (α := Int32 → x_S → Option (Int32 × x_S)) (fun _ _ => none) (fun K => fun x5 σ => gX7_refusalOfThread_49  x1 x2 x3 K x5 σ) n x5 σ = some (r0, σ0) → x_J p l e (x_rm 2) s m args below meth c 0 0 (MQ below (x_Qi D vwCl s_N (s_C cI cQ cC ad) ad r0 σ0) args s 0 0 (x_A s_N ad)) (x_A s_N ad) 6 (x_I D vwCl s_N (s_C cI cQ cC ad) ad σ) [(0, .ref (ad 0)), (1, .int x1), (2, .int x2), (3, .int x3), (5, .int x5)] [] 49 := by
    intro n
    induction n with
    | zero => intro x5 σ h; cases h
    | succ n ih => intro x5 σ h; exact qX7_refusalOfThread_49 B G hr  ih  h
  exact key x_F x5 σ hf
set_option maxRecDepth 100000 in
set_option maxHeartbeats 4000000 in
theorem mX7_refusalOfThread {σ : x_S} {a1 : Int32} {a2 : Int32} {a3 : Int32} (hdis : x_dis s_N ad) (hf : fX7_refusalOfThread a1 a2 a3 σ = some (r0, σ0)) : x_NI l yX7_refusalOfThread wsX7_refusalOfThread 2 D vwCl (s_tys cI cQ cC cZ) s_N (s_C cI cQ cC ad) ad (s_St aS) s_NW [.ref (ad 0), .int a1, .int a2, .int a3] σ r0 σ0 := by
  refine x_met (cc := cX7_refusalOfThread) (own := RX7) (maxL := 6) (ret := (some .int)) (by decide +kernel) rfl rfl (Nat.le_of_ble_eq_true rfl) hdis (s_StOk aS) s_NwOk (fun p e s m args below meth c B G hr => ?_)
  unfold fX7_refusalOfThread at hf
  refine x_sub (lv' := [(0, .ref (ad 0)), (1, .int a1), (2, .int a2), (3, .int a3)]) [0, 1, 2, 3] rfl ?_
  refine x_iload_n B dX7_refusalOfThread_0 rfl 1 rfl ?_
  obtain ⟨r2, e1, hf⟩ := x_ps hf
  refine x_callS (As := [.int a1]) (st := []) B G (mX5_isRow (l := l) G.1.2.1  e1) (va_cwS 1 B.2.2.2.2.1 gX7_refusalOfThread_X5_isRow rfl rfl rfl hdX5_isRow (x_rm_ok (by omega) (by decide))) rfl rfl (Nat.le_of_ble_eq_true rfl) ⟨Nat.zero_le _, Nat.zero_le _⟩ dX7_refusalOfThread_1 ?_
  refine x_if_eq (tgt := 17) B dX7_refusalOfThread_4 (by decide) (fun h3 => ?_) (fun h3 => ?_)
  · replace hf := x_it h3 hf
    refine x_ldc (v := (-1000001)) B iX7_refusalOfThread_0 dX7_refusalOfThread_17 ?_
    obtain ⟨rfl, rfl⟩ := x_retI hf
    exact x_iret B hr dX7_refusalOfThread_19
  · replace hf := x_if h3 hf
    refine x_iload_n B dX7_refusalOfThread_7 rfl 3 rfl ?_
    refine x_iconst (v := 1) B dX7_refusalOfThread_8 (by decide) ?_
    refine x_bipush (v := 12) B dX7_refusalOfThread_9 (by decide) ?_
    obtain ⟨r5, e4, hf⟩ := x_ps hf
    refine x_callS (As := [.int a3, .int 1, .int 12]) (st := []) B G (mX7_isWithin (l := l) G.1.2.1  e4) (va_cwS 3 B.2.2.2.2.1 gX7_refusalOfThread_X7_isWithin rfl rfl rfl hdX7_isWithin (x_rm_ok (by omega) (by decide))) rfl rfl (Nat.le_of_ble_eq_true rfl) ⟨Nat.zero_le _, Nat.zero_le _⟩ dX7_refusalOfThread_11 ?_
    refine x_if_ne (tgt := 20) B dX7_refusalOfThread_14 (by decide) (fun h6 => ?_) (fun h6 => ?_)
    · replace hf := x_if h6 hf
      refine x_aload_n B dX7_refusalOfThread_20 rfl 0 rfl ?_
      refine x_get (v := .ref (ad 1)) (kc := 0) (index := 10) B G.1 iX7_refusalOfThread_cX7 rfl (by decide) s_c0 0 (by decide) iX7_refusalOfThread_1 rfl dX7_refusalOfThread_21 ?_
      refine x_iload_n B dX7_refusalOfThread_24 rfl 1 rfl ?_
      refine x_iload_n B dX7_refusalOfThread_25 rfl 2 rfl ?_
      refine x_iconst (v := 2) B dX7_refusalOfThread_26 (by decide) ?_
      refine x_iload_n B dX7_refusalOfThread_27 rfl 3 rfl ?_
      refine x_imul B dX7_refusalOfThread_28 ?_
      obtain ⟨r8, e7, hf⟩ := x_ps hf
      refine x_callV (As := [.int a1, .int a2, .int (2 * a3)]) (st := []) B G (mX5_findingOf (l := l) G.1.2.1  e7) (cwV 3 B.2.2.2.2.1 gX7_refusalOfThread_X5_findingOf rfl rfl rfl hdX5_findingOf (x_rm_ok (by omega) (by decide))) (by decide) s_c1 rfl rfl rfl (Nat.le_of_ble_eq_true rfl) ⟨Nat.zero_le _, Nat.zero_le _⟩ dX7_refusalOfThread_29 ?_
      refine x_istore (lv' := [(4, .int r8), (0, .ref (ad 0)), (1, .int a1), (2, .int a2), (3, .int a3)]) B dX7_refusalOfThread_32 (by decide) rfl ?_
      refine x_iload B dX7_refusalOfThread_34 0 rfl ?_
      refine x_if_eq (tgt := 46) B dX7_refusalOfThread_36 (by decide) (fun h9 => ?_) (fun h9 => ?_)
      · replace hf := x_it h9 hf
        refine x_iconst (v := 0) B dX7_refusalOfThread_46 (by decide) ?_
        refine x_istore (lv' := [(5, .int 0), (4, .int r8), (0, .ref (ad 0)), (1, .int a1), (2, .int a2), (3, .int a3)]) B dX7_refusalOfThread_47 (by decide) rfl ?_
        refine x_sub [2, 3, 4, 5, 0] rfl ?_
        exact kX7_refusalOfThread_49 B G hr hf
      · replace hf := x_if h9 hf
        refine x_aload_n B dX7_refusalOfThread_39 rfl 1 rfl ?_
        refine x_iload B dX7_refusalOfThread_40 0 rfl ?_
        obtain ⟨r11, σ12, e10, hf⟩ := x_bs hf
        refine x_callV (As := [.int r8]) (st := []) B G (mX7_found (l := l) G.1.2.1  e10) (cwV 1 B.2.2.2.2.1 gX7_refusalOfThread_X7_found rfl rfl rfl hdX7_found (x_rm_ok (by omega) (by decide))) (by decide) s_c0 rfl rfl rfl (Nat.le_of_ble_eq_true rfl) ⟨Nat.zero_le _, Nat.zero_le _⟩ dX7_refusalOfThread_42 ?_
        obtain ⟨rfl, rfl⟩ := x_retI hf
        exact x_iret B hr dX7_refusalOfThread_45
    · replace hf := x_it h6 hf
      refine x_ldc (v := (-1000001)) B iX7_refusalOfThread_0 dX7_refusalOfThread_17 ?_
      obtain ⟨rfl, rfl⟩ := x_retI hf
      exact x_iret B hr dX7_refusalOfThread_19
theorem iX7_owesAlong_0 : Cond.fieldLink RX7 10 "SignDuty" "rows" "LSignDuty$Rows;" ∈ wsX7_owesAlong := by decide +kernel
theorem iX7_owesAlong_cX7 : ∀ w ∈ u_ws RX7 TX7 9, w ∈ wsX7_owesAlong := by decide +kernel
theorem iX7_owesAlong_2 : Cond.fieldLink RX7 26 "SignDuty" "city" "LSignDuty$City;" ∈ wsX7_owesAlong := by decide +kernel
set_option maxRecDepth 100000 in
set_option maxHeartbeats 4000000 in
theorem qX7_owesAlong_3 {σ : x_S} {x1 : Int32} {x2 : Int32} {x3 : Int32} {x4 : Int32} {x5 : Int32} {x6 : Int32} {K3 : Int32 → Option Int32} (B : x_B p s m args meth c cX7_owesAlong 9 wsX7_owesAlong RX7) (G : x_H s D vwCl (s_tys cI cQ cC cZ) s_N ad (x_A s_N ad) (s_St aS) s_NW) (hr : meth.sig.returnType = (some .boolean)) (hK3 : ∀ (x6 : Int32), K3 x6 = some r0 → x_J p l e (x_rm 3) s m args below meth c 0 0 (MQ below (x_Qi D vwCl s_N (s_C cI cQ cC ad) ad r0 σ) args s 0 0 (x_A s_N ad)) (x_A s_N ad) 9 (x_I D vwCl s_N (s_C cI cQ cC ad) ad σ) [(0, .ref (ad 0)), (1, .int x1), (2, .int x2), (3, .int x3), (4, .int x4), (5, .int x5), (6, .int x6)] [] 3) (hf : gX7_owesAlong_3  x1 x2 x3 x4 x5 K3 x6 σ = some r0) : x_J p l e (x_rm 3) s m args below meth c 0 0 (MQ below (x_Qi D vwCl s_N (s_C cI cQ cC ad) ad r0 σ) args s 0 0 (x_A s_N ad)) (x_A s_N ad) 9 (x_I D vwCl s_N (s_C cI cQ cC ad) ad σ) [(0, .ref (ad 0)), (1, .int x1), (2, .int x2), (3, .int x3), (4, .int x4), (5, .int x5), (6, .int x6)] [] 3 := by
  unfold gX7_owesAlong_3 at hf
  refine x_iload B dX7_owesAlong_3 6 rfl ?_
  refine x_iload B dX7_owesAlong_5 5 rfl ?_
  refine x_icmp_ge (tgt := 79) B dX7_owesAlong_7 (by decide) (fun h1 => ?_) (fun h1 => ?_)
  · replace hf := x_it h1 hf
    refine x_iconst (v := 1) B dX7_owesAlong_79 (by decide) ?_
    obtain rfl := x_retP hf
    exact x_zret B hr (by decide) dX7_owesAlong_80
  · replace hf := x_if h1 hf
    refine x_aload_n B dX7_owesAlong_10 rfl 0 rfl ?_
    refine x_get (v := .ref (ad 1)) (kc := 0) (index := 10) B G.1 iX7_owesAlong_cX7 rfl (by decide) s_c0 0 (by decide) iX7_owesAlong_0 rfl dX7_owesAlong_11 ?_
    refine x_iload_n B dX7_owesAlong_14 rfl 3 rfl ?_
    refine x_iload B dX7_owesAlong_15 4 rfl ?_
    refine x_iconst (v := 2) B dX7_owesAlong_17 (by decide) ?_
    refine x_iload B dX7_owesAlong_18 6 rfl ?_
    refine x_imul B dX7_owesAlong_20 ?_
    refine x_iadd B dX7_owesAlong_21 ?_
    obtain ⟨r3, e2, hf⟩ := x_ps hf
    refine x_callV (As := [.int x3, .int (x4 + (2 * x6))]) (st := []) B G (mX5_at (l := l) G.1.2.1  e2) (cwV 2 B.2.2.2.2.1 gX7_owesAlong_X5_at rfl rfl rfl hdX5_at (x_rm_ok (by omega) (by decide))) (by decide) s_c1 rfl rfl rfl (Nat.le_of_ble_eq_true rfl) ⟨Nat.zero_le _, Nat.zero_le _⟩ dX7_owesAlong_22 ?_
    refine x_istore (lv' := [(7, .int r3), (0, .ref (ad 0)), (1, .int x1), (2, .int x2), (3, .int x3), (4, .int x4), (5, .int x5), (6, .int x6)]) B dX7_owesAlong_25 (by decide) rfl ?_
    refine x_aload_n B dX7_owesAlong_27 rfl 1 rfl ?_
    refine x_get (v := .ref (ad 1)) (kc := 0) (index := 10) B G.1 iX7_owesAlong_cX7 rfl (by decide) s_c0 0 (by decide) iX7_owesAlong_0 rfl dX7_owesAlong_28 ?_
    refine x_iload_n B dX7_owesAlong_31 rfl 4 rfl ?_
    refine x_iload B dX7_owesAlong_32 5 rfl ?_
    refine x_iconst (v := 2) B dX7_owesAlong_34 (by decide) ?_
    refine x_iload B dX7_owesAlong_35 7 rfl ?_
    refine x_imul B dX7_owesAlong_37 ?_
    refine x_iadd B dX7_owesAlong_38 ?_
    refine x_iconst (v := 1) B dX7_owesAlong_39 (by decide) ?_
    refine x_iadd B dX7_owesAlong_40 ?_
    obtain ⟨r5, e4, hf⟩ := x_ps hf
    refine x_callV (As := [.int x3, .int ((x4 + (2 * x6)) + 1)]) (st := []) B G (mX5_at (l := l) G.1.2.1  e4) (cwV 2 B.2.2.2.2.1 gX7_owesAlong_X5_at rfl rfl rfl hdX5_at (x_rm_ok (by omega) (by decide))) (by decide) s_c1 rfl rfl rfl (Nat.le_of_ble_eq_true rfl) ⟨Nat.zero_le _, Nat.zero_le _⟩ dX7_owesAlong_41 ?_
    refine x_istore (lv' := [(8, .int r5), (7, .int r3), (0, .ref (ad 0)), (1, .int x1), (2, .int x2), (3, .int x3), (4, .int x4), (5, .int x5), (6, .int x6)]) B dX7_owesAlong_44 (by decide) rfl ?_
    refine x_aload_n B dX7_owesAlong_46 rfl 2 rfl ?_
    refine x_iload B dX7_owesAlong_47 1 rfl ?_
    obtain ⟨r7, e6, hf⟩ := x_ps hf
    refine x_callV (As := [.int r3]) (st := []) B G (mX7_isStreet (l := l) G.1.2.1  e6) (cwV 1 B.2.2.2.2.1 gX7_owesAlong_X7_isStreet rfl rfl rfl hdX7_isStreet (x_rm_ok (by omega) (by decide))) (by decide) s_c0 rfl rfl rfl (Nat.le_of_ble_eq_true rfl) ⟨Nat.zero_le _, Nat.zero_le _⟩ dX7_owesAlong_49 ?_
    refine x_if_eq (tgt := 71) B dX7_owesAlong_52 (by decide) (fun h8 => ?_) (fun h8 => ?_)
    · replace hf := x_it h8 hf
      refine x_iconst (v := 0) B dX7_owesAlong_71 (by decide) ?_
      obtain rfl := x_retP hf
      exact x_zret B hr (by decide) dX7_owesAlong_72
    · replace hf := x_if h8 hf
      refine x_aload_n B dX7_owesAlong_55 rfl 2 rfl ?_
      refine x_get (v := .ref (ad 32)) (kc := 0) (index := 26) B G.1 iX7_owesAlong_cX7 rfl (by decide) s_c0 2 (by decide) iX7_owesAlong_2 rfl dX7_owesAlong_56 ?_
      refine x_iload_n B dX7_owesAlong_59 rfl 3 rfl ?_
      refine x_iload_n B dX7_owesAlong_60 rfl 4 rfl ?_
      refine x_iload B dX7_owesAlong_61 1 rfl ?_
      obtain ⟨r10, e9, hf⟩ := x_ps hf
      refine x_callV (As := [.int x1, .int x2, .int r3]) (st := []) B G (mX2_owesSuch (l := l) G.1.2.1 s_iC32 e9) (cwV 3 B.2.2.2.2.1 gX7_owesAlong_X2_owesSuch rfl rfl rfl hdX2_owesSuch (x_rm_ok (by omega) (by decide))) (s_kC s_iC32) (s_cC s_iC32) rfl rfl rfl (Nat.le_of_ble_eq_true rfl) ⟨Nat.zero_le _, Nat.zero_le _⟩ dX7_owesAlong_63 ?_
      refine x_iload B dX7_owesAlong_66 0 rfl ?_
      refine x_icmp_eq (tgt := 73) B dX7_owesAlong_68 (by decide) (fun h11 => ?_) (fun h11 => ?_)
      · replace hf := x_it h11 hf
        refine x_iinc (v := (x6 + 1)) (lv' := [(6, .int (x6 + 1)), (8, .int r5), (7, .int r3), (0, .ref (ad 0)), (1, .int x1), (2, .int x2), (3, .int x3), (4, .int x4), (5, .int x5)]) B dX7_owesAlong_73 8 rfl rfl (by decide) rfl ?_
        refine x_goto (tgt := 3) B dX7_owesAlong_76 (by decide) ?_
        refine x_sub [3, 4, 5, 6, 7, 8, 0] rfl ?_
        exact hK3 _ hf
      · replace hf := x_if h11 hf
        refine x_iconst (v := 0) B dX7_owesAlong_71 (by decide) ?_
        obtain rfl := x_retP hf
        exact x_zret B hr (by decide) dX7_owesAlong_72
set_option maxRecDepth 100000 in
set_option maxHeartbeats 4000000 in
theorem kX7_owesAlong_3 {σ : x_S} {x1 : Int32} {x2 : Int32} {x3 : Int32} {x4 : Int32} {x5 : Int32} {x6 : Int32} (B : x_B p s m args meth c cX7_owesAlong 9 wsX7_owesAlong RX7) (G : x_H s D vwCl (s_tys cI cQ cC cZ) s_N ad (x_A s_N ad) (s_St aS) s_NW) (hr : meth.sig.returnType = (some .boolean)) (hf : bX7_owesAlong_3  x1 x2 x3 x4 x5 x6 σ = some r0) : x_J p l e (x_rm 3) s m args below meth c 0 0 (MQ below (x_Qi D vwCl s_N (s_C cI cQ cC ad) ad r0 σ) args s 0 0 (x_A s_N ad)) (x_A s_N ad) 9 (x_I D vwCl s_N (s_C cI cQ cC ad) ad σ) [(0, .ref (ad 0)), (1, .int x1), (2, .int x2), (3, .int x3), (4, .int x4), (5, .int x5), (6, .int x6)] [] 3 := by
  have key : ∀ (n : Nat) (x6 : Int32), x_fx (α := Int32 → Option Int32) (fun _ => none) (fun K => fun x6 => gX7_owesAlong_3  x1 x2 x3 x4 x5 K x6 σ) n x6 = some r0 → x_J p l e (x_rm 3) s m args below meth c 0 0 (MQ below (x_Qi D vwCl s_N (s_C cI cQ cC ad) ad r0 σ) args s 0 0 (x_A s_N ad)) (x_A s_N ad) 9 (x_I D vwCl s_N (s_C cI cQ cC ad) ad σ) [(0, .ref (ad 0)), (1, .int x1), (2, .int x2), (3, .int x3), (4, .int x4), (5, .int x5), (6, .int x6)] [] 3 := by
    intro n
    induction n with
    | zero => intro x6 h; cases h
    | succ n ih => intro x6 h; exact qX7_owesAlong_3 B G hr  ih  h
  exact key x_F x6 hf
set_option maxRecDepth 100000 in
set_option maxHeartbeats 4000000 in
theorem mX7_owesAlong {σ : x_S} {a1 : Int32} {a2 : Int32} {a3 : Int32} {a4 : Int32} {a5 : Int32} (hdis : x_dis s_N ad) (hf : fX7_owesAlong a1 a2 a3 a4 a5 σ = some r0) : x_NI l yX7_owesAlong wsX7_owesAlong 3 D vwCl (s_tys cI cQ cC cZ) s_N (s_C cI cQ cC ad) ad (s_St aS) s_NW [.ref (ad 0), .int a1, .int a2, .int a3, .int a4, .int a5] σ r0 σ := by
  refine x_met (cc := cX7_owesAlong) (own := RX7) (maxL := 9) (ret := (some .boolean)) (by decide +kernel) rfl rfl (Nat.le_of_ble_eq_true rfl) hdis (s_StOk aS) s_NwOk (fun p e s m args below meth c B G hr => ?_)
  unfold fX7_owesAlong at hf
  refine x_sub (lv' := [(0, .ref (ad 0)), (1, .int a1), (2, .int a2), (3, .int a3), (4, .int a4), (5, .int a5)]) [0, 1, 2, 3, 4, 5] rfl ?_
  refine x_iconst (v := 0) B dX7_owesAlong_0 (by decide) ?_
  refine x_istore (lv' := [(6, .int 0), (0, .ref (ad 0)), (1, .int a1), (2, .int a2), (3, .int a3), (4, .int a4), (5, .int a5)]) B dX7_owesAlong_1 (by decide) rfl ?_
  refine x_sub [1, 2, 3, 4, 5, 6, 0] rfl ?_
  exact kX7_owesAlong_3 B G hr hf
theorem iX7_isSeenAlong_0 : Cond.fieldLink RX7 10 "SignDuty" "rows" "LSignDuty$Rows;" ∈ wsX7_isSeenAlong := by decide +kernel
theorem iX7_isSeenAlong_cX7 : ∀ w ∈ u_ws RX7 TX7 9, w ∈ wsX7_isSeenAlong := by decide +kernel
theorem iX7_isSeenAlong_2 : Cond.fieldLink RX7 26 "SignDuty" "city" "LSignDuty$City;" ∈ wsX7_isSeenAlong := by decide +kernel
set_option maxRecDepth 100000 in
set_option maxHeartbeats 4000000 in
theorem qX7_isSeenAlong_3 {σ : x_S} {x1 : Int32} {x2 : Int32} {x3 : Int32} {x4 : Int32} {x5 : Int32} {K3 : Int32 → Option Int32} (B : x_B p s m args meth c cX7_isSeenAlong 7 wsX7_isSeenAlong RX7) (G : x_H s D vwCl (s_tys cI cQ cC cZ) s_N ad (x_A s_N ad) (s_St aS) s_NW) (hr : meth.sig.returnType = (some .boolean)) (hK3 : ∀ (x5 : Int32), K3 x5 = some r0 → x_J p l e (x_rm 1) s m args below meth c 0 0 (MQ below (x_Qi D vwCl s_N (s_C cI cQ cC ad) ad r0 σ) args s 0 0 (x_A s_N ad)) (x_A s_N ad) 7 (x_I D vwCl s_N (s_C cI cQ cC ad) ad σ) [(0, .ref (ad 0)), (1, .int x1), (2, .int x2), (3, .int x3), (4, .int x4), (5, .int x5)] [] 3) (hf : gX7_isSeenAlong_3  x1 x2 x3 x4 K3 x5 σ = some r0) : x_J p l e (x_rm 1) s m args below meth c 0 0 (MQ below (x_Qi D vwCl s_N (s_C cI cQ cC ad) ad r0 σ) args s 0 0 (x_A s_N ad)) (x_A s_N ad) 7 (x_I D vwCl s_N (s_C cI cQ cC ad) ad σ) [(0, .ref (ad 0)), (1, .int x1), (2, .int x2), (3, .int x3), (4, .int x4), (5, .int x5)] [] 3 := by
  unfold gX7_isSeenAlong_3 at hf
  refine x_iload B dX7_isSeenAlong_3 5 rfl ?_
  refine x_iload B dX7_isSeenAlong_5 4 rfl ?_
  refine x_icmp_ge (tgt := 56) B dX7_isSeenAlong_7 (by decide) (fun h1 => ?_) (fun h1 => ?_)
  · replace hf := x_it h1 hf
    refine x_iconst (v := 1) B dX7_isSeenAlong_56 (by decide) ?_
    obtain rfl := x_retP hf
    exact x_zret B hr (by decide) dX7_isSeenAlong_57
  · replace hf := x_if h1 hf
    refine x_aload_n B dX7_isSeenAlong_10 rfl 0 rfl ?_
    refine x_get (v := .ref (ad 1)) (kc := 0) (index := 10) B G.1 iX7_isSeenAlong_cX7 rfl (by decide) s_c0 0 (by decide) iX7_isSeenAlong_0 rfl dX7_isSeenAlong_11 ?_
    refine x_iload_n B dX7_isSeenAlong_14 rfl 2 rfl ?_
    refine x_iload_n B dX7_isSeenAlong_15 rfl 3 rfl ?_
    refine x_iconst (v := 2) B dX7_isSeenAlong_16 (by decide) ?_
    refine x_iload B dX7_isSeenAlong_17 5 rfl ?_
    refine x_imul B dX7_isSeenAlong_19 ?_
    refine x_iadd B dX7_isSeenAlong_20 ?_
    obtain ⟨r3, e2, hf⟩ := x_ps hf
    refine x_callV (As := [.int x2, .int (x3 + (2 * x5))]) (st := []) B G (mX5_at (l := l) G.1.2.1  e2) (cwV 2 B.2.2.2.2.1 gX7_isSeenAlong_X5_at rfl rfl rfl hdX5_at (x_rm_ok (by omega) (by decide))) (by decide) s_c1 rfl rfl rfl (Nat.le_of_ble_eq_true rfl) ⟨Nat.zero_le _, Nat.zero_le _⟩ dX7_isSeenAlong_21 ?_
    refine x_istore (lv' := [(6, .int r3), (0, .ref (ad 0)), (1, .int x1), (2, .int x2), (3, .int x3), (4, .int x4), (5, .int x5)]) B dX7_isSeenAlong_24 (by decide) rfl ?_
    refine x_aload_n B dX7_isSeenAlong_26 rfl 1 rfl ?_
    refine x_iload B dX7_isSeenAlong_27 0 rfl ?_
    obtain ⟨r5, e4, hf⟩ := x_ps hf
    refine x_callV (As := [.int r3]) (st := []) B G (mX7_isStreet (l := l) G.1.2.1  e4) (cwV 1 B.2.2.2.2.1 gX7_isSeenAlong_X7_isStreet rfl rfl rfl hdX7_isStreet (x_rm_ok (by omega) (by decide))) (by decide) s_c0 rfl rfl rfl (Nat.le_of_ble_eq_true rfl) ⟨Nat.zero_le _, Nat.zero_le _⟩ dX7_isSeenAlong_29 ?_
    refine x_if_eq (tgt := 48) B dX7_isSeenAlong_32 (by decide) (fun h6 => ?_) (fun h6 => ?_)
    · replace hf := x_it h6 hf
      refine x_iconst (v := 0) B dX7_isSeenAlong_48 (by decide) ?_
      obtain rfl := x_retP hf
      exact x_zret B hr (by decide) dX7_isSeenAlong_49
    · replace hf := x_if h6 hf
      refine x_aload_n B dX7_isSeenAlong_35 rfl 1 rfl ?_
      refine x_get (v := .ref (ad 32)) (kc := 0) (index := 26) B G.1 iX7_isSeenAlong_cX7 rfl (by decide) s_c0 2 (by decide) iX7_isSeenAlong_2 rfl dX7_isSeenAlong_36 ?_
      refine x_iload_n B dX7_isSeenAlong_39 rfl 2 rfl ?_
      refine x_iload B dX7_isSeenAlong_40 0 rfl ?_
      obtain ⟨r8, e7, hf⟩ := x_ps hf
      refine x_callV (As := [.int x1, .int r3]) (st := []) B G (mX2_isSeen (l := l) G.1.2.1 s_iC32 e7) (cwV 2 B.2.2.2.2.1 gX7_isSeenAlong_X2_isSeen rfl rfl rfl hdX2_isSeen (x_rm_ok (by omega) (by decide))) (s_kC s_iC32) (s_cC s_iC32) rfl rfl rfl (Nat.le_of_ble_eq_true rfl) ⟨Nat.zero_le _, Nat.zero_le _⟩ dX7_isSeenAlong_42 ?_
      refine x_if_ne (tgt := 50) B dX7_isSeenAlong_45 (by decide) (fun h9 => ?_) (fun h9 => ?_)
      · replace hf := x_if h9 hf
        refine x_iinc (v := (x5 + 1)) (lv' := [(5, .int (x5 + 1)), (6, .int r3), (0, .ref (ad 0)), (1, .int x1), (2, .int x2), (3, .int x3), (4, .int x4)]) B dX7_isSeenAlong_50 6 rfl rfl (by decide) rfl ?_
        refine x_goto (tgt := 3) B dX7_isSeenAlong_53 (by decide) ?_
        refine x_sub [2, 3, 4, 5, 6, 0] rfl ?_
        exact hK3 _ hf
      · replace hf := x_it h9 hf
        refine x_iconst (v := 0) B dX7_isSeenAlong_48 (by decide) ?_
        obtain rfl := x_retP hf
        exact x_zret B hr (by decide) dX7_isSeenAlong_49
set_option maxRecDepth 100000 in
set_option maxHeartbeats 4000000 in
theorem kX7_isSeenAlong_3 {σ : x_S} {x1 : Int32} {x2 : Int32} {x3 : Int32} {x4 : Int32} {x5 : Int32} (B : x_B p s m args meth c cX7_isSeenAlong 7 wsX7_isSeenAlong RX7) (G : x_H s D vwCl (s_tys cI cQ cC cZ) s_N ad (x_A s_N ad) (s_St aS) s_NW) (hr : meth.sig.returnType = (some .boolean)) (hf : bX7_isSeenAlong_3  x1 x2 x3 x4 x5 σ = some r0) : x_J p l e (x_rm 1) s m args below meth c 0 0 (MQ below (x_Qi D vwCl s_N (s_C cI cQ cC ad) ad r0 σ) args s 0 0 (x_A s_N ad)) (x_A s_N ad) 7 (x_I D vwCl s_N (s_C cI cQ cC ad) ad σ) [(0, .ref (ad 0)), (1, .int x1), (2, .int x2), (3, .int x3), (4, .int x4), (5, .int x5)] [] 3 := by
  have key : ∀ (n : Nat) (x5 : Int32), x_fx (α := Int32 → Option Int32) (fun _ => none) (fun K => fun x5 => gX7_isSeenAlong_3  x1 x2 x3 x4 K x5 σ) n x5 = some r0 → x_J p l e (x_rm 1) s m args below meth c 0 0 (MQ below (x_Qi D vwCl s_N (s_C cI cQ cC ad) ad r0 σ) args s 0 0 (x_A s_N ad)) (x_A s_N ad) 7 (x_I D vwCl s_N (s_C cI cQ cC ad) ad σ) [(0, .ref (ad 0)), (1, .int x1), (2, .int x2), (3, .int x3), (4, .int x4), (5, .int x5)] [] 3 := by
    intro n
    induction n with
    | zero => intro x5 h; cases h
    | succ n ih => intro x5 h; exact qX7_isSeenAlong_3 B G hr  ih  h
  exact key x_F x5 hf
set_option maxRecDepth 100000 in
set_option maxHeartbeats 4000000 in
theorem mX7_isSeenAlong {σ : x_S} {a1 : Int32} {a2 : Int32} {a3 : Int32} {a4 : Int32} (hdis : x_dis s_N ad) (hf : fX7_isSeenAlong a1 a2 a3 a4 σ = some r0) : x_NI l yX7_isSeenAlong wsX7_isSeenAlong 1 D vwCl (s_tys cI cQ cC cZ) s_N (s_C cI cQ cC ad) ad (s_St aS) s_NW [.ref (ad 0), .int a1, .int a2, .int a3, .int a4] σ r0 σ := by
  refine x_met (cc := cX7_isSeenAlong) (own := RX7) (maxL := 7) (ret := (some .boolean)) (by decide +kernel) rfl rfl (Nat.le_of_ble_eq_true rfl) hdis (s_StOk aS) s_NwOk (fun p e s m args below meth c B G hr => ?_)
  unfold fX7_isSeenAlong at hf
  refine x_sub (lv' := [(0, .ref (ad 0)), (1, .int a1), (2, .int a2), (3, .int a3), (4, .int a4)]) [0, 1, 2, 3, 4] rfl ?_
  refine x_iconst (v := 0) B dX7_isSeenAlong_0 (by decide) ?_
  refine x_istore (lv' := [(5, .int 0), (0, .ref (ad 0)), (1, .int a1), (2, .int a2), (3, .int a3), (4, .int a4)]) B dX7_isSeenAlong_1 (by decide) rfl ?_
  refine x_sub [1, 2, 3, 4, 5, 0] rfl ?_
  exact kX7_isSeenAlong_3 B G hr hf
theorem iX7_thread_0 : Cond.fieldLink RX7 26 "SignDuty" "city" "LSignDuty$City;" ∈ wsX7_thread := by decide +kernel
theorem iX7_thread_cX7 : ∀ w ∈ u_ws RX7 TX7 9, w ∈ wsX7_thread := by decide +kernel
theorem iX7_thread_2 : Cond.fieldLink RX7 211 "SignDuty$City" "stands" "Z" ∈ wsX7_thread := by decide +kernel
theorem iX7_thread_cX2 : ∀ w ∈ u_ws RX2 TX2 13, w ∈ wsX7_thread := by decide +kernel
theorem iX7_thread_4 : Cond.fieldLink RX7 129 "SignDuty$City" "gestures" "I" ∈ wsX7_thread := by decide +kernel
theorem iX7_thread_5 : Cond.fieldLink RX7 225 "SignDuty$City" "kind" "[I" ∈ wsX7_thread := by decide +kernel
theorem iX7_thread_6 : Cond.fieldLink RX7 163 "SignDuty$City" "inches" "[I" ∈ wsX7_thread := by decide +kernel
theorem iX7_thread_7 : Cond.constant RX7 144 (-1000002) ∈ wsX7_thread := by decide +kernel
set_option maxRecDepth 100000 in
set_option maxHeartbeats 4000000 in
theorem qX7_thread_36 {σ : x_S} {x1 : Int32} {x2 : Int32} {x3 : Int32} {x5 : Int32} {x6 : Int32} {K36 : Int32 → Int32 → x_S → Option (Int32 × x_S)} (B : x_B p s m args meth c cX7_thread 8 wsX7_thread RX7) (G : x_H s D vwCl (s_tys cI cQ cC cZ) s_N ad (x_A s_N ad) (s_St aS) s_NW) (hr : meth.sig.returnType = (some .int)) (hK36 : ∀ (x5 : Int32) (x6 : Int32) (σ : x_S), K36 x5 x6 σ = some (r0, σ0) → x_J p l e (x_rm 4) s m args below meth c 0 0 (MQ below (x_Qi D vwCl s_N (s_C cI cQ cC ad) ad r0 σ0) args s 0 0 (x_A s_N ad)) (x_A s_N ad) 8 (x_I D vwCl s_N (s_C cI cQ cC ad) ad σ) [(0, .ref (ad 0)), (1, .int x1), (2, .int x2), (3, .int x3), (5, .int x5), (6, .int x6)] [] 36) (hf : gX7_thread_36  x1 x2 x3 K36 x5 x6 σ = some (r0, σ0)) : x_J p l e (x_rm 4) s m args below meth c 0 0 (MQ below (x_Qi D vwCl s_N (s_C cI cQ cC ad) ad r0 σ0) args s 0 0 (x_A s_N ad)) (x_A s_N ad) 8 (x_I D vwCl s_N (s_C cI cQ cC ad) ad σ) [(0, .ref (ad 0)), (1, .int x1), (2, .int x2), (3, .int x3), (5, .int x5), (6, .int x6)] [] 36 := by
  unfold gX7_thread_36 at hf
  refine x_iload B dX7_thread_36 5 rfl ?_
  refine x_aload_n B dX7_thread_38 rfl 0 rfl ?_
  refine x_get (v := .ref (ad 32)) (kc := 0) (index := 26) B G.1 iX7_thread_cX7 rfl (by decide) s_c0 2 (by decide) iX7_thread_0 rfl dX7_thread_39 ?_
  refine x_get (v := .int (σ 32 5)) (kc := 32) (index := 129) B G.1 iX7_thread_cX2 rfl (s_kC s_iC32) (s_cC s_iC32) 5 (by decide) iX7_thread_4 rfl dX7_thread_42 ?_
  refine x_icmp_ge (tgt := 109) B dX7_thread_45 (by decide) (fun h1 => ?_) (fun h1 => ?_)
  · replace hf := x_it h1 hf
    refine x_aload_n B dX7_thread_109 rfl 0 rfl ?_
    refine x_iload B dX7_thread_110 4 rfl ?_
    obtain ⟨r3, σ4, e2, hf⟩ := x_bs hf
    refine x_callV (As := [.int x5]) (st := []) B G (mX7_foundNothing (l := l) G.1.2.1  e2) (cwV 1 B.2.2.2.2.1 gX7_thread_X7_foundNothing rfl rfl rfl hdX7_foundNothing (x_rm_ok (by omega) (by decide))) (by decide) s_c0 rfl rfl rfl (Nat.le_of_ble_eq_true rfl) ⟨Nat.zero_le _, Nat.zero_le _⟩ dX7_thread_112 ?_
    obtain ⟨rfl, rfl⟩ := x_retI hf
    exact x_iret B hr dX7_thread_115
  · replace hf := x_if h1 hf
    refine x_aload_n B dX7_thread_48 rfl 0 rfl ?_
    refine x_aload_n B dX7_thread_49 rfl 0 rfl ?_
    refine x_get (v := .ref (ad 32)) (kc := 0) (index := 26) B G.1 iX7_thread_cX7 rfl (by decide) s_c0 2 (by decide) iX7_thread_0 rfl dX7_thread_50 ?_
    refine x_get (v := .ref (ad 35)) (kc := 32) (index := 225) B G.1 iX7_thread_cX2 rfl (s_kC s_iC32) (s_cC s_iC32) 8 (by decide) iX7_thread_5 rfl dX7_thread_53 ?_
    refine x_iload B dX7_thread_56 5 rfl ?_
    obtain ⟨h5, hf⟩ := x_gs hf
    refine x_iald (kc := 35) (t0 := 0) B G.1 (s_kC3 s_iC32) (s_cC3 s_iC32) rfl h5 dX7_thread_58 ?_
    refine x_aload_n B dX7_thread_59 rfl 0 rfl ?_
    refine x_get (v := .ref (ad 32)) (kc := 0) (index := 26) B G.1 iX7_thread_cX7 rfl (by decide) s_c0 2 (by decide) iX7_thread_0 rfl dX7_thread_60 ?_
    refine x_get (v := .ref (ad 36)) (kc := 32) (index := 163) B G.1 iX7_thread_cX2 rfl (s_kC s_iC32) (s_cC s_iC32) 9 (by decide) iX7_thread_6 rfl dX7_thread_63 ?_
    refine x_iload B dX7_thread_66 5 rfl ?_
    obtain ⟨h6, hf⟩ := x_gs hf
    refine x_iald (kc := 36) (t0 := 0) B G.1 (s_kC4 s_iC32) (s_cC4 s_iC32) rfl h6 dX7_thread_68 ?_
    refine x_iload_n B dX7_thread_69 rfl 1 rfl ?_
    refine x_iload_n B dX7_thread_70 rfl 2 rfl ?_
    refine x_iload_n B dX7_thread_71 rfl 3 rfl ?_
    obtain ⟨r8, e7, hf⟩ := x_ps hf
    refine x_callV (As := [.int (σ 35 x6.toNatClampNeg), .int (σ 36 x6.toNatClampNeg), .int x1, .int x2, .int x3]) (st := []) B G (mX7_owesAlong (l := l) G.1.2.1  e7) (cwV 5 B.2.2.2.2.1 gX7_thread_X7_owesAlong rfl rfl rfl hdX7_owesAlong (x_rm_ok (by omega) (by decide))) (by decide) s_c0 rfl rfl rfl (Nat.le_of_ble_eq_true rfl) ⟨Nat.zero_le _, Nat.zero_le _⟩ dX7_thread_72 ?_
    refine x_istore (lv' := [(7, .int r8), (0, .ref (ad 0)), (1, .int x1), (2, .int x2), (3, .int x3), (5, .int x5), (6, .int x6)]) B dX7_thread_75 (by decide) rfl ?_
    refine x_iload B dX7_thread_77 0 rfl ?_
    refine x_if_eq (tgt := 103) B dX7_thread_79 (by decide) (fun h9 => ?_) (fun h9 => ?_)
    · replace hf := x_it h9 hf
      refine x_iinc (v := (x6 + 1)) (lv' := [(6, .int (x6 + 1)), (7, .int r8), (0, .ref (ad 0)), (1, .int x1), (2, .int x2), (3, .int x3), (5, .int x5)]) B dX7_thread_103 6 rfl rfl (by decide) rfl ?_
      refine x_goto (tgt := 36) B dX7_thread_106 (by decide) ?_
      refine x_sub [2, 3, 4, 5, 6, 0] rfl ?_
      exact hK36 _ _ _ hf
    · replace hf := x_if h9 hf
      refine x_aload_n B dX7_thread_82 rfl 1 rfl ?_
      refine x_iload B dX7_thread_83 6 rfl ?_
      refine x_iload_n B dX7_thread_85 rfl 2 rfl ?_
      refine x_iload_n B dX7_thread_86 rfl 3 rfl ?_
      refine x_iload_n B dX7_thread_87 rfl 4 rfl ?_
      obtain ⟨r11, e10, hf⟩ := x_ps hf
      refine x_callV (As := [.int x6, .int x1, .int x2, .int x3]) (st := []) B G (mX7_isSeenAlong (l := l) G.1.2.1  e10) (cwV 4 B.2.2.2.2.1 gX7_thread_X7_isSeenAlong rfl rfl rfl hdX7_isSeenAlong (x_rm_ok (by omega) (by decide))) (by decide) s_c0 rfl rfl rfl (Nat.le_of_ble_eq_true rfl) ⟨Nat.zero_le _, Nat.zero_le _⟩ dX7_thread_88 ?_
      refine x_if_eq (tgt := 103) B dX7_thread_91 (by decide) (fun h12 => ?_) (fun h12 => ?_)
      · replace hf := x_it h12 hf
        refine x_iinc (v := (x6 + 1)) (lv' := [(6, .int (x6 + 1)), (7, .int r8), (0, .ref (ad 0)), (1, .int x1), (2, .int x2), (3, .int x3), (5, .int x5)]) B dX7_thread_103 6 rfl rfl (by decide) rfl ?_
        refine x_goto (tgt := 36) B dX7_thread_106 (by decide) ?_
        refine x_sub [2, 3, 4, 5, 6, 0] rfl ?_
        exact hK36 _ _ _ hf
      · replace hf := x_if h12 hf
        refine x_iload B dX7_thread_94 5 rfl ?_
        refine x_iconst (v := 1) B dX7_thread_96 (by decide) ?_
        refine x_iload B dX7_thread_97 6 rfl ?_
        refine x_ishl B dX7_thread_99 ?_
        refine x_ior B dX7_thread_100 ?_
        refine x_istore (lv' := [(5, .int (x5 ||| (1 <<< (x6 &&& 31)))), (7, .int r8), (0, .ref (ad 0)), (1, .int x1), (2, .int x2), (3, .int x3), (6, .int x6)]) B dX7_thread_101 (by decide) rfl ?_
        refine x_iinc (v := (x6 + 1)) (lv' := [(6, .int (x6 + 1)), (5, .int (x5 ||| (1 <<< (x6 &&& 31)))), (7, .int r8), (0, .ref (ad 0)), (1, .int x1), (2, .int x2), (3, .int x3)]) B dX7_thread_103 6 rfl rfl (by decide) rfl ?_
        refine x_goto (tgt := 36) B dX7_thread_106 (by decide) ?_
        refine x_sub [3, 4, 5, 6, 1, 0] rfl ?_
        exact hK36 _ _ _ hf
set_option maxRecDepth 100000 in
set_option maxHeartbeats 4000000 in
theorem kX7_thread_36 {σ : x_S} {x1 : Int32} {x2 : Int32} {x3 : Int32} {x5 : Int32} {x6 : Int32} (B : x_B p s m args meth c cX7_thread 8 wsX7_thread RX7) (G : x_H s D vwCl (s_tys cI cQ cC cZ) s_N ad (x_A s_N ad) (s_St aS) s_NW) (hr : meth.sig.returnType = (some .int)) (hf : bX7_thread_36  x1 x2 x3 x5 x6 σ = some (r0, σ0)) : x_J p l e (x_rm 4) s m args below meth c 0 0 (MQ below (x_Qi D vwCl s_N (s_C cI cQ cC ad) ad r0 σ0) args s 0 0 (x_A s_N ad)) (x_A s_N ad) 8 (x_I D vwCl s_N (s_C cI cQ cC ad) ad σ) [(0, .ref (ad 0)), (1, .int x1), (2, .int x2), (3, .int x3), (5, .int x5), (6, .int x6)] [] 36 := by
  have key : ∀ (n : Nat) (x5 : Int32) (x6 : Int32) (σ : x_S), x_fx (α := Int32 → Int32 → x_S → Option (Int32 × x_S)) (fun _ _ _ => none) (fun K => fun x5 x6 σ => gX7_thread_36  x1 x2 x3 K x5 x6 σ) n x5 x6 σ = some (r0, σ0) → x_J p l e (x_rm 4) s m args below meth c 0 0 (MQ below (x_Qi D vwCl s_N (s_C cI cQ cC ad) ad r0 σ0) args s 0 0 (x_A s_N ad)) (x_A s_N ad) 8 (x_I D vwCl s_N (s_C cI cQ cC ad) ad σ) [(0, .ref (ad 0)), (1, .int x1), (2, .int x2), (3, .int x3), (5, .int x5), (6, .int x6)] [] 36 := by
    intro n
    induction n with
    | zero => intro x5 x6 σ h; cases h
    | succ n ih => intro x5 x6 σ h; exact qX7_thread_36 B G hr  ih  h
  exact key x_F x5 x6 σ hf
set_option maxRecDepth 100000 in
set_option maxHeartbeats 4000000 in
theorem mX7_thread {σ : x_S} {a1 : Int32} {a2 : Int32} {a3 : Int32} (hdis : x_dis s_N ad) (hf : fX7_thread a1 a2 a3 σ = some (r0, σ0)) : x_NI l yX7_thread wsX7_thread 4 D vwCl (s_tys cI cQ cC cZ) s_N (s_C cI cQ cC ad) ad (s_St aS) s_NW [.ref (ad 0), .int a1, .int a2, .int a3] σ r0 σ0 := by
  refine x_met (cc := cX7_thread) (own := RX7) (maxL := 8) (ret := (some .int)) (by decide +kernel) rfl rfl (Nat.le_of_ble_eq_true rfl) hdis (s_StOk aS) s_NwOk (fun p e s m args below meth c B G hr => ?_)
  unfold fX7_thread at hf
  refine x_sub (lv' := [(0, .ref (ad 0)), (1, .int a1), (2, .int a2), (3, .int a3)]) [0, 1, 2, 3] rfl ?_
  refine x_aload_n B dX7_thread_0 rfl 0 rfl ?_
  refine x_get (v := .ref (ad 32)) (kc := 0) (index := 26) B G.1 iX7_thread_cX7 rfl (by decide) s_c0 2 (by decide) iX7_thread_0 rfl dX7_thread_1 ?_
  refine x_get (v := .int (σ 32 0)) (kc := 32) (index := 211) B G.1 iX7_thread_cX2 rfl (s_kC s_iC32) (s_cC s_iC32) 0 (by decide) iX7_thread_2 rfl dX7_thread_4 ?_
  refine x_if_ne (tgt := 13) B dX7_thread_7 (by decide) (fun h1 => ?_) (fun h1 => ?_)
  · replace hf := x_if h1 hf
    refine x_aload_n B dX7_thread_13 rfl 0 rfl ?_
    refine x_iload_n B dX7_thread_14 rfl 1 rfl ?_
    refine x_iload_n B dX7_thread_15 rfl 2 rfl ?_
    refine x_iload_n B dX7_thread_16 rfl 3 rfl ?_
    obtain ⟨r3, σ4, e2, hf⟩ := x_bs hf
    refine x_callV (As := [.int a1, .int a2, .int a3]) (st := []) B G (mX7_refusalOfThread (l := l) G.1.2.1  e2) (cwV 3 B.2.2.2.2.1 gX7_thread_X7_refusalOfThread rfl rfl rfl hdX7_refusalOfThread (x_rm_ok (by omega) (by decide))) (by decide) s_c0 rfl rfl rfl (Nat.le_of_ble_eq_true rfl) ⟨Nat.zero_le _, Nat.zero_le _⟩ dX7_thread_17 ?_
    refine x_istore (lv' := [(4, .int r3), (0, .ref (ad 0)), (1, .int a1), (2, .int a2), (3, .int a3)]) B dX7_thread_20 (by decide) rfl ?_
    refine x_iload B dX7_thread_22 0 rfl ?_
    refine x_if_eq (tgt := 30) B dX7_thread_24 (by decide) (fun h5 => ?_) (fun h5 => ?_)
    · replace hf := x_it h5 hf
      refine x_iconst (v := 0) B dX7_thread_30 (by decide) ?_
      refine x_istore (lv' := [(5, .int 0), (4, .int r3), (0, .ref (ad 0)), (1, .int a1), (2, .int a2), (3, .int a3)]) B dX7_thread_31 (by decide) rfl ?_
      refine x_iconst (v := 0) B dX7_thread_33 (by decide) ?_
      refine x_istore (lv' := [(6, .int 0), (5, .int 0), (4, .int r3), (0, .ref (ad 0)), (1, .int a1), (2, .int a2), (3, .int a3)]) B dX7_thread_34 (by decide) rfl ?_
      refine x_sub [3, 4, 5, 6, 1, 0] rfl ?_
      exact kX7_thread_36 B G hr hf
    · replace hf := x_if h5 hf
      refine x_iload B dX7_thread_27 0 rfl ?_
      obtain ⟨rfl, rfl⟩ := x_retI hf
      exact x_iret B hr dX7_thread_29
  · replace hf := x_it h1 hf
    refine x_ldc (v := (-1000002)) B iX7_thread_7 dX7_thread_10 ?_
    obtain ⟨rfl, rfl⟩ := x_retI hf
    exact x_iret B hr dX7_thread_12
theorem iX7_inches_0 : Cond.constant RX7 70 (-1000001) ∈ wsX7_inches := by decide +kernel
theorem iX7_inches_1 : Cond.fieldLink RX7 26 "SignDuty" "city" "LSignDuty$City;" ∈ wsX7_inches := by decide +kernel
theorem iX7_inches_cX7 : ∀ w ∈ u_ws RX7 TX7 9, w ∈ wsX7_inches := by decide +kernel
theorem iX7_inches_3 : Cond.fieldLink RX7 225 "SignDuty$City" "kind" "[I" ∈ wsX7_inches := by decide +kernel
theorem iX7_inches_cX2 : ∀ w ∈ u_ws RX2 TX2 13, w ∈ wsX7_inches := by decide +kernel
set_option maxRecDepth 100000 in
set_option maxHeartbeats 4000000 in
theorem qX7_inches_37 {σ : x_S} {x1 : Int32} {x2 : Int32} {x3 : Int32} {x4 : Int32} {x6 : Int32} {x7 : Int32} {K37 : Int32 → Int32 → x_S → Option (Int32 × x_S)} (B : x_B p s m args meth c cX7_inches 8 wsX7_inches RX7) (G : x_H s D vwCl (s_tys cI cQ cC cZ) s_N ad (x_A s_N ad) (s_St aS) s_NW) (hr : meth.sig.returnType = (some .int)) (hK37 : ∀ (x6 : Int32) (x7 : Int32) (σ : x_S), K37 x6 x7 σ = some (r0, σ0) → x_J p l e (x_rm 4) s m args below meth c 0 0 (MQ below (x_Qi D vwCl s_N (s_C cI cQ cC ad) ad r0 σ0) args s 0 0 (x_A s_N ad)) (x_A s_N ad) 8 (x_I D vwCl s_N (s_C cI cQ cC ad) ad σ) [(0, .ref (ad 0)), (1, .int x1), (2, .int x2), (3, .int x3), (4, .int x4), (6, .int x6), (7, .int x7)] [] 37) (hf : gX7_inches_37  x1 x2 x3 x4 K37 x6 x7 σ = some (r0, σ0)) : x_J p l e (x_rm 4) s m args below meth c 0 0 (MQ below (x_Qi D vwCl s_N (s_C cI cQ cC ad) ad r0 σ0) args s 0 0 (x_A s_N ad)) (x_A s_N ad) 8 (x_I D vwCl s_N (s_C cI cQ cC ad) ad σ) [(0, .ref (ad 0)), (1, .int x1), (2, .int x2), (3, .int x3), (4, .int x4), (6, .int x6), (7, .int x7)] [] 37 := by
  unfold gX7_inches_37 at hf
  refine x_iload B dX7_inches_37 6 rfl ?_
  refine x_bipush (v := 30) B dX7_inches_39 (by decide) ?_
  refine x_icmp_gt (tgt := 83) B dX7_inches_41 (by decide) (fun h1 => ?_) (fun h1 => ?_)
  · replace hf := x_it h1 hf
    refine x_aload_n B dX7_inches_83 rfl 0 rfl ?_
    refine x_iload B dX7_inches_84 5 rfl ?_
    obtain ⟨r3, σ4, e2, hf⟩ := x_bs hf
    refine x_callV (As := [.int x6]) (st := []) B G (mX7_foundNothing (l := l) G.1.2.1  e2) (cwV 1 B.2.2.2.2.1 gX7_inches_X7_foundNothing rfl rfl rfl hdX7_foundNothing (x_rm_ok (by omega) (by decide))) (by decide) s_c0 rfl rfl rfl (Nat.le_of_ble_eq_true rfl) ⟨Nat.zero_le _, Nat.zero_le _⟩ dX7_inches_86 ?_
    obtain ⟨rfl, rfl⟩ := x_retI hf
    exact x_iret B hr dX7_inches_89
  · replace hf := x_if h1 hf
    refine x_aload_n B dX7_inches_44 rfl 0 rfl ?_
    refine x_aload_n B dX7_inches_45 rfl 0 rfl ?_
    refine x_get (v := .ref (ad 32)) (kc := 0) (index := 26) B G.1 iX7_inches_cX7 rfl (by decide) s_c0 2 (by decide) iX7_inches_1 rfl dX7_inches_46 ?_
    refine x_get (v := .ref (ad 35)) (kc := 32) (index := 225) B G.1 iX7_inches_cX2 rfl (s_kC s_iC32) (s_cC s_iC32) 8 (by decide) iX7_inches_3 rfl dX7_inches_49 ?_
    refine x_iload_n B dX7_inches_52 rfl 1 rfl ?_
    obtain ⟨h5, hf⟩ := x_gs hf
    refine x_iald (kc := 35) (t0 := 0) B G.1 (s_kC3 s_iC32) (s_cC3 s_iC32) rfl h5 dX7_inches_53 ?_
    refine x_iload B dX7_inches_54 6 rfl ?_
    refine x_iload_n B dX7_inches_56 rfl 2 rfl ?_
    refine x_iload_n B dX7_inches_57 rfl 3 rfl ?_
    refine x_iload B dX7_inches_58 4 rfl ?_
    obtain ⟨r7, e6, hf⟩ := x_ps hf
    refine x_callV (As := [.int (σ 35 x1.toNatClampNeg), .int x7, .int x2, .int x3, .int x4]) (st := []) B G (mX7_owesAlong (l := l) G.1.2.1  e6) (cwV 5 B.2.2.2.2.1 gX7_inches_X7_owesAlong rfl rfl rfl hdX7_owesAlong (x_rm_ok (by omega) (by decide))) (by decide) s_c0 rfl rfl rfl (Nat.le_of_ble_eq_true rfl) ⟨Nat.zero_le _, Nat.zero_le _⟩ dX7_inches_60 ?_
    refine x_if_eq (tgt := 77) B dX7_inches_63 (by decide) (fun h8 => ?_) (fun h8 => ?_)
    · replace hf := x_it h8 hf
      refine x_iinc (v := (x7 + 1)) (lv' := [(7, .int (x7 + 1)), (0, .ref (ad 0)), (1, .int x1), (2, .int x2), (3, .int x3), (4, .int x4), (6, .int x6)]) B dX7_inches_77 6 rfl rfl (by decide) rfl ?_
      refine x_goto (tgt := 37) B dX7_inches_80 (by decide) ?_
      refine x_sub [1, 2, 3, 4, 5, 6, 0] rfl ?_
      exact hK37 _ _ _ hf
    · replace hf := x_if h8 hf
      refine x_iload B dX7_inches_66 5 rfl ?_
      refine x_iconst (v := 1) B dX7_inches_68 (by decide) ?_
      refine x_iload B dX7_inches_69 6 rfl ?_
      refine x_iconst (v := 1) B dX7_inches_71 (by decide) ?_
      refine x_isub B dX7_inches_72 ?_
      refine x_ishl B dX7_inches_73 ?_
      refine x_ior B dX7_inches_74 ?_
      refine x_istore (lv' := [(6, .int (x6 ||| (1 <<< ((x7 - 1) &&& 31)))), (0, .ref (ad 0)), (1, .int x1), (2, .int x2), (3, .int x3), (4, .int x4), (7, .int x7)]) B dX7_inches_75 (by decide) rfl ?_
      refine x_iinc (v := (x7 + 1)) (lv' := [(7, .int (x7 + 1)), (6, .int (x6 ||| (1 <<< ((x7 - 1) &&& 31)))), (0, .ref (ad 0)), (1, .int x1), (2, .int x2), (3, .int x3), (4, .int x4)]) B dX7_inches_77 6 rfl rfl (by decide) rfl ?_
      refine x_goto (tgt := 37) B dX7_inches_80 (by decide) ?_
      refine x_sub [2, 3, 4, 5, 6, 1, 0] rfl ?_
      exact hK37 _ _ _ hf
set_option maxRecDepth 100000 in
set_option maxHeartbeats 4000000 in
theorem kX7_inches_37 {σ : x_S} {x1 : Int32} {x2 : Int32} {x3 : Int32} {x4 : Int32} {x6 : Int32} {x7 : Int32} (B : x_B p s m args meth c cX7_inches 8 wsX7_inches RX7) (G : x_H s D vwCl (s_tys cI cQ cC cZ) s_N ad (x_A s_N ad) (s_St aS) s_NW) (hr : meth.sig.returnType = (some .int)) (hf : bX7_inches_37  x1 x2 x3 x4 x6 x7 σ = some (r0, σ0)) : x_J p l e (x_rm 4) s m args below meth c 0 0 (MQ below (x_Qi D vwCl s_N (s_C cI cQ cC ad) ad r0 σ0) args s 0 0 (x_A s_N ad)) (x_A s_N ad) 8 (x_I D vwCl s_N (s_C cI cQ cC ad) ad σ) [(0, .ref (ad 0)), (1, .int x1), (2, .int x2), (3, .int x3), (4, .int x4), (6, .int x6), (7, .int x7)] [] 37 := by
  have key : ∀ (n : Nat) (x6 : Int32) (x7 : Int32) (σ : x_S), x_fx (α := Int32 → Int32 → x_S → Option (Int32 × x_S)) (fun _ _ _ => none) (fun K => fun x6 x7 σ => gX7_inches_37  x1 x2 x3 x4 K x6 x7 σ) n x6 x7 σ = some (r0, σ0) → x_J p l e (x_rm 4) s m args below meth c 0 0 (MQ below (x_Qi D vwCl s_N (s_C cI cQ cC ad) ad r0 σ0) args s 0 0 (x_A s_N ad)) (x_A s_N ad) 8 (x_I D vwCl s_N (s_C cI cQ cC ad) ad σ) [(0, .ref (ad 0)), (1, .int x1), (2, .int x2), (3, .int x3), (4, .int x4), (6, .int x6), (7, .int x7)] [] 37 := by
    intro n
    induction n with
    | zero => intro x6 x7 σ h; cases h
    | succ n ih => intro x6 x7 σ h; exact qX7_inches_37 B G hr  ih  h
  exact key x_F x6 x7 σ hf
set_option maxRecDepth 100000 in
set_option maxHeartbeats 4000000 in
theorem kX7_inches_21 {σ : x_S} {x1 : Int32} {x2 : Int32} {x3 : Int32} {x4 : Int32} {y0 : Int32} (B : x_B p s m args meth c cX7_inches 8 wsX7_inches RX7) (G : x_H s D vwCl (s_tys cI cQ cC cZ) s_N ad (x_A s_N ad) (s_St aS) s_NW) (hr : meth.sig.returnType = (some .int)) (hf : bX7_inches_21  x1 x2 x3 x4 y0 σ = some (r0, σ0)) : x_J p l e (x_rm 4) s m args below meth c 0 0 (MQ below (x_Qi D vwCl s_N (s_C cI cQ cC ad) ad r0 σ0) args s 0 0 (x_A s_N ad)) (x_A s_N ad) 8 (x_I D vwCl s_N (s_C cI cQ cC ad) ad σ) [(0, .ref (ad 0)), (1, .int x1), (2, .int x2), (3, .int x3), (4, .int x4)] [.int y0] 21 := by
  unfold bX7_inches_21 at hf
  refine x_istore (lv' := [(5, .int y0), (0, .ref (ad 0)), (1, .int x1), (2, .int x2), (3, .int x3), (4, .int x4)]) B dX7_inches_21 (by decide) rfl ?_
  refine x_iload B dX7_inches_23 0 rfl ?_
  refine x_if_eq (tgt := 31) B dX7_inches_25 (by decide) (fun h1 => ?_) (fun h1 => ?_)
  · replace hf := x_it h1 hf
    refine x_iconst (v := 0) B dX7_inches_31 (by decide) ?_
    refine x_istore (lv' := [(6, .int 0), (5, .int y0), (0, .ref (ad 0)), (1, .int x1), (2, .int x2), (3, .int x3), (4, .int x4)]) B dX7_inches_32 (by decide) rfl ?_
    refine x_iconst (v := 1) B dX7_inches_34 (by decide) ?_
    refine x_istore (lv' := [(7, .int 1), (6, .int 0), (5, .int y0), (0, .ref (ad 0)), (1, .int x1), (2, .int x2), (3, .int x3), (4, .int x4)]) B dX7_inches_35 (by decide) rfl ?_
    refine x_sub [3, 4, 5, 6, 7, 1, 0] rfl ?_
    exact kX7_inches_37 B G hr hf
  · replace hf := x_if h1 hf
    refine x_iload B dX7_inches_28 0 rfl ?_
    obtain ⟨rfl, rfl⟩ := x_retI hf
    exact x_iret B hr dX7_inches_30
set_option maxRecDepth 100000 in
set_option maxHeartbeats 4000000 in
theorem mX7_inches {σ : x_S} {a1 : Int32} {a2 : Int32} {a3 : Int32} {a4 : Int32} (hdis : x_dis s_N ad) (hf : fX7_inches a1 a2 a3 a4 σ = some (r0, σ0)) : x_NI l yX7_inches wsX7_inches 4 D vwCl (s_tys cI cQ cC cZ) s_N (s_C cI cQ cC ad) ad (s_St aS) s_NW [.ref (ad 0), .int a1, .int a2, .int a3, .int a4] σ r0 σ0 := by
  refine x_met (cc := cX7_inches) (own := RX7) (maxL := 8) (ret := (some .int)) (by decide +kernel) rfl rfl (Nat.le_of_ble_eq_true rfl) hdis (s_StOk aS) s_NwOk (fun p e s m args below meth c B G hr => ?_)
  unfold fX7_inches at hf
  refine x_sub (lv' := [(0, .ref (ad 0)), (1, .int a1), (2, .int a2), (3, .int a3), (4, .int a4)]) [0, 1, 2, 3, 4] rfl ?_
  refine x_aload_n B dX7_inches_0 rfl 0 rfl ?_
  refine x_iload_n B dX7_inches_1 rfl 1 rfl ?_
  obtain ⟨r2, e1, hf⟩ := x_ps hf
  refine x_callV (As := [.int a1]) (st := []) B G (mX7_isGesture (l := l) G.1.2.1  e1) (cwV 1 B.2.2.2.2.1 gX7_inches_X7_isGesture rfl rfl rfl hdX7_isGesture (x_rm_ok (by omega) (by decide))) (by decide) s_c0 rfl rfl rfl (Nat.le_of_ble_eq_true rfl) ⟨Nat.zero_le _, Nat.zero_le _⟩ dX7_inches_2 ?_
  refine x_if_eq (tgt := 19) B dX7_inches_5 (by decide) (fun h3 => ?_) (fun h3 => ?_)
  · replace hf := x_it h3 hf
    refine x_ldc (v := (-1000001)) B iX7_inches_0 dX7_inches_19 ?_
    refine x_sub [0, 1, 2, 3, 4] rfl ?_
    exact kX7_inches_21 B G hr hf
  · replace hf := x_if h3 hf
    refine x_aload_n B dX7_inches_8 rfl 0 rfl ?_
    refine x_iload_n B dX7_inches_9 rfl 2 rfl ?_
    refine x_iload_n B dX7_inches_10 rfl 3 rfl ?_
    refine x_iload B dX7_inches_11 4 rfl ?_
    obtain ⟨r5, σ6, e4, hf⟩ := x_bs hf
    refine x_callV (As := [.int a2, .int a3, .int a4]) (st := []) B G (mX7_refusalOfThread (l := l) G.1.2.1  e4) (cwV 3 B.2.2.2.2.1 gX7_inches_X7_refusalOfThread rfl rfl rfl hdX7_refusalOfThread (x_rm_ok (by omega) (by decide))) (by decide) s_c0 rfl rfl rfl (Nat.le_of_ble_eq_true rfl) ⟨Nat.zero_le _, Nat.zero_le _⟩ dX7_inches_13 ?_
    refine x_goto (tgt := 21) B dX7_inches_16 (by decide) ?_
    refine x_sub [0, 1, 2, 3, 4] rfl ?_
    exact kX7_inches_21 B G hr hf
theorem iX7_sorts_0 : Cond.constant RX7 70 (-1000001) ∈ wsX7_sorts := by decide +kernel
theorem iX7_sorts_1 : Cond.fieldLink RX7 26 "SignDuty" "city" "LSignDuty$City;" ∈ wsX7_sorts := by decide +kernel
theorem iX7_sorts_cX7 : ∀ w ∈ u_ws RX7 TX7 9, w ∈ wsX7_sorts := by decide +kernel
theorem iX7_sorts_3 : Cond.fieldLink RX7 163 "SignDuty$City" "inches" "[I" ∈ wsX7_sorts := by decide +kernel
theorem iX7_sorts_cX2 : ∀ w ∈ u_ws RX2 TX2 13, w ∈ wsX7_sorts := by decide +kernel
set_option maxRecDepth 100000 in
set_option maxHeartbeats 4000000 in
theorem qX7_sorts_37 {σ : x_S} {x1 : Int32} {x2 : Int32} {x3 : Int32} {x4 : Int32} {x6 : Int32} {x7 : Int32} {K37 : Int32 → Int32 → x_S → Option (Int32 × x_S)} (B : x_B p s m args meth c cX7_sorts 8 wsX7_sorts RX7) (G : x_H s D vwCl (s_tys cI cQ cC cZ) s_N ad (x_A s_N ad) (s_St aS) s_NW) (hr : meth.sig.returnType = (some .int)) (hK37 : ∀ (x6 : Int32) (x7 : Int32) (σ : x_S), K37 x6 x7 σ = some (r0, σ0) → x_J p l e (x_rm 4) s m args below meth c 0 0 (MQ below (x_Qi D vwCl s_N (s_C cI cQ cC ad) ad r0 σ0) args s 0 0 (x_A s_N ad)) (x_A s_N ad) 8 (x_I D vwCl s_N (s_C cI cQ cC ad) ad σ) [(0, .ref (ad 0)), (1, .int x1), (2, .int x2), (3, .int x3), (4, .int x4), (6, .int x6), (7, .int x7)] [] 37) (hf : gX7_sorts_37  x1 x2 x3 x4 K37 x6 x7 σ = some (r0, σ0)) : x_J p l e (x_rm 4) s m args below meth c 0 0 (MQ below (x_Qi D vwCl s_N (s_C cI cQ cC ad) ad r0 σ0) args s 0 0 (x_A s_N ad)) (x_A s_N ad) 8 (x_I D vwCl s_N (s_C cI cQ cC ad) ad σ) [(0, .ref (ad 0)), (1, .int x1), (2, .int x2), (3, .int x3), (4, .int x4), (6, .int x6), (7, .int x7)] [] 37 := by
  unfold gX7_sorts_37 at hf
  refine x_iload B dX7_sorts_37 6 rfl ?_
  refine x_iconst (v := 5) B dX7_sorts_39 (by decide) ?_
  refine x_icmp_gt (tgt := 80) B dX7_sorts_40 (by decide) (fun h1 => ?_) (fun h1 => ?_)
  · replace hf := x_it h1 hf
    refine x_aload_n B dX7_sorts_80 rfl 0 rfl ?_
    refine x_iload B dX7_sorts_81 5 rfl ?_
    obtain ⟨r3, σ4, e2, hf⟩ := x_bs hf
    refine x_callV (As := [.int x6]) (st := []) B G (mX7_foundNothing (l := l) G.1.2.1  e2) (cwV 1 B.2.2.2.2.1 gX7_sorts_X7_foundNothing rfl rfl rfl hdX7_foundNothing (x_rm_ok (by omega) (by decide))) (by decide) s_c0 rfl rfl rfl (Nat.le_of_ble_eq_true rfl) ⟨Nat.zero_le _, Nat.zero_le _⟩ dX7_sorts_83 ?_
    obtain ⟨rfl, rfl⟩ := x_retI hf
    exact x_iret B hr dX7_sorts_86
  · replace hf := x_if h1 hf
    refine x_aload_n B dX7_sorts_43 rfl 0 rfl ?_
    refine x_iload B dX7_sorts_44 6 rfl ?_
    refine x_aload_n B dX7_sorts_46 rfl 0 rfl ?_
    refine x_get (v := .ref (ad 32)) (kc := 0) (index := 26) B G.1 iX7_sorts_cX7 rfl (by decide) s_c0 2 (by decide) iX7_sorts_1 rfl dX7_sorts_47 ?_
    refine x_get (v := .ref (ad 36)) (kc := 32) (index := 163) B G.1 iX7_sorts_cX2 rfl (s_kC s_iC32) (s_cC s_iC32) 9 (by decide) iX7_sorts_3 rfl dX7_sorts_50 ?_
    refine x_iload_n B dX7_sorts_53 rfl 1 rfl ?_
    obtain ⟨h5, hf⟩ := x_gs hf
    refine x_iald (kc := 36) (t0 := 0) B G.1 (s_kC4 s_iC32) (s_cC4 s_iC32) rfl h5 dX7_sorts_54 ?_
    refine x_iload_n B dX7_sorts_55 rfl 2 rfl ?_
    refine x_iload_n B dX7_sorts_56 rfl 3 rfl ?_
    refine x_iload B dX7_sorts_57 4 rfl ?_
    obtain ⟨r7, e6, hf⟩ := x_ps hf
    refine x_callV (As := [.int x7, .int (σ 36 x1.toNatClampNeg), .int x2, .int x3, .int x4]) (st := []) B G (mX7_owesAlong (l := l) G.1.2.1  e6) (cwV 5 B.2.2.2.2.1 gX7_sorts_X7_owesAlong rfl rfl rfl hdX7_owesAlong (x_rm_ok (by omega) (by decide))) (by decide) s_c0 rfl rfl rfl (Nat.le_of_ble_eq_true rfl) ⟨Nat.zero_le _, Nat.zero_le _⟩ dX7_sorts_59 ?_
    refine x_if_eq (tgt := 74) B dX7_sorts_62 (by decide) (fun h8 => ?_) (fun h8 => ?_)
    · replace hf := x_it h8 hf
      refine x_iinc (v := (x7 + 1)) (lv' := [(7, .int (x7 + 1)), (0, .ref (ad 0)), (1, .int x1), (2, .int x2), (3, .int x3), (4, .int x4), (6, .int x6)]) B dX7_sorts_74 6 rfl rfl (by decide) rfl ?_
      refine x_goto (tgt := 37) B dX7_sorts_77 (by decide) ?_
      refine x_sub [1, 2, 3, 4, 5, 6, 0] rfl ?_
      exact hK37 _ _ _ hf
    · replace hf := x_if h8 hf
      refine x_iload B dX7_sorts_65 5 rfl ?_
      refine x_iconst (v := 1) B dX7_sorts_67 (by decide) ?_
      refine x_iload B dX7_sorts_68 6 rfl ?_
      refine x_ishl B dX7_sorts_70 ?_
      refine x_ior B dX7_sorts_71 ?_
      refine x_istore (lv' := [(6, .int (x6 ||| (1 <<< (x7 &&& 31)))), (0, .ref (ad 0)), (1, .int x1), (2, .int x2), (3, .int x3), (4, .int x4), (7, .int x7)]) B dX7_sorts_72 (by decide) rfl ?_
      refine x_iinc (v := (x7 + 1)) (lv' := [(7, .int (x7 + 1)), (6, .int (x6 ||| (1 <<< (x7 &&& 31)))), (0, .ref (ad 0)), (1, .int x1), (2, .int x2), (3, .int x3), (4, .int x4)]) B dX7_sorts_74 6 rfl rfl (by decide) rfl ?_
      refine x_goto (tgt := 37) B dX7_sorts_77 (by decide) ?_
      refine x_sub [2, 3, 4, 5, 6, 1, 0] rfl ?_
      exact hK37 _ _ _ hf
set_option maxRecDepth 100000 in
set_option maxHeartbeats 4000000 in
theorem kX7_sorts_37 {σ : x_S} {x1 : Int32} {x2 : Int32} {x3 : Int32} {x4 : Int32} {x6 : Int32} {x7 : Int32} (B : x_B p s m args meth c cX7_sorts 8 wsX7_sorts RX7) (G : x_H s D vwCl (s_tys cI cQ cC cZ) s_N ad (x_A s_N ad) (s_St aS) s_NW) (hr : meth.sig.returnType = (some .int)) (hf : bX7_sorts_37  x1 x2 x3 x4 x6 x7 σ = some (r0, σ0)) : x_J p l e (x_rm 4) s m args below meth c 0 0 (MQ below (x_Qi D vwCl s_N (s_C cI cQ cC ad) ad r0 σ0) args s 0 0 (x_A s_N ad)) (x_A s_N ad) 8 (x_I D vwCl s_N (s_C cI cQ cC ad) ad σ) [(0, .ref (ad 0)), (1, .int x1), (2, .int x2), (3, .int x3), (4, .int x4), (6, .int x6), (7, .int x7)] [] 37 := by
  have key : ∀ (n : Nat) (x6 : Int32) (x7 : Int32) (σ : x_S), x_fx (α := Int32 → Int32 → x_S → Option (Int32 × x_S)) (fun _ _ _ => none) (fun K => fun x6 x7 σ => gX7_sorts_37  x1 x2 x3 x4 K x6 x7 σ) n x6 x7 σ = some (r0, σ0) → x_J p l e (x_rm 4) s m args below meth c 0 0 (MQ below (x_Qi D vwCl s_N (s_C cI cQ cC ad) ad r0 σ0) args s 0 0 (x_A s_N ad)) (x_A s_N ad) 8 (x_I D vwCl s_N (s_C cI cQ cC ad) ad σ) [(0, .ref (ad 0)), (1, .int x1), (2, .int x2), (3, .int x3), (4, .int x4), (6, .int x6), (7, .int x7)] [] 37 := by
    intro n
    induction n with
    | zero => intro x6 x7 σ h; cases h
    | succ n ih => intro x6 x7 σ h; exact qX7_sorts_37 B G hr  ih  h
  exact key x_F x6 x7 σ hf
set_option maxRecDepth 100000 in
set_option maxHeartbeats 4000000 in
theorem kX7_sorts_21 {σ : x_S} {x1 : Int32} {x2 : Int32} {x3 : Int32} {x4 : Int32} {y0 : Int32} (B : x_B p s m args meth c cX7_sorts 8 wsX7_sorts RX7) (G : x_H s D vwCl (s_tys cI cQ cC cZ) s_N ad (x_A s_N ad) (s_St aS) s_NW) (hr : meth.sig.returnType = (some .int)) (hf : bX7_sorts_21  x1 x2 x3 x4 y0 σ = some (r0, σ0)) : x_J p l e (x_rm 4) s m args below meth c 0 0 (MQ below (x_Qi D vwCl s_N (s_C cI cQ cC ad) ad r0 σ0) args s 0 0 (x_A s_N ad)) (x_A s_N ad) 8 (x_I D vwCl s_N (s_C cI cQ cC ad) ad σ) [(0, .ref (ad 0)), (1, .int x1), (2, .int x2), (3, .int x3), (4, .int x4)] [.int y0] 21 := by
  unfold bX7_sorts_21 at hf
  refine x_istore (lv' := [(5, .int y0), (0, .ref (ad 0)), (1, .int x1), (2, .int x2), (3, .int x3), (4, .int x4)]) B dX7_sorts_21 (by decide) rfl ?_
  refine x_iload B dX7_sorts_23 0 rfl ?_
  refine x_if_eq (tgt := 31) B dX7_sorts_25 (by decide) (fun h1 => ?_) (fun h1 => ?_)
  · replace hf := x_it h1 hf
    refine x_iconst (v := 0) B dX7_sorts_31 (by decide) ?_
    refine x_istore (lv' := [(6, .int 0), (5, .int y0), (0, .ref (ad 0)), (1, .int x1), (2, .int x2), (3, .int x3), (4, .int x4)]) B dX7_sorts_32 (by decide) rfl ?_
    refine x_iconst (v := 1) B dX7_sorts_34 (by decide) ?_
    refine x_istore (lv' := [(7, .int 1), (6, .int 0), (5, .int y0), (0, .ref (ad 0)), (1, .int x1), (2, .int x2), (3, .int x3), (4, .int x4)]) B dX7_sorts_35 (by decide) rfl ?_
    refine x_sub [3, 4, 5, 6, 7, 1, 0] rfl ?_
    exact kX7_sorts_37 B G hr hf
  · replace hf := x_if h1 hf
    refine x_iload B dX7_sorts_28 0 rfl ?_
    obtain ⟨rfl, rfl⟩ := x_retI hf
    exact x_iret B hr dX7_sorts_30
set_option maxRecDepth 100000 in
set_option maxHeartbeats 4000000 in
theorem mX7_sorts {σ : x_S} {a1 : Int32} {a2 : Int32} {a3 : Int32} {a4 : Int32} (hdis : x_dis s_N ad) (hf : fX7_sorts a1 a2 a3 a4 σ = some (r0, σ0)) : x_NI l yX7_sorts wsX7_sorts 4 D vwCl (s_tys cI cQ cC cZ) s_N (s_C cI cQ cC ad) ad (s_St aS) s_NW [.ref (ad 0), .int a1, .int a2, .int a3, .int a4] σ r0 σ0 := by
  refine x_met (cc := cX7_sorts) (own := RX7) (maxL := 8) (ret := (some .int)) (by decide +kernel) rfl rfl (Nat.le_of_ble_eq_true rfl) hdis (s_StOk aS) s_NwOk (fun p e s m args below meth c B G hr => ?_)
  unfold fX7_sorts at hf
  refine x_sub (lv' := [(0, .ref (ad 0)), (1, .int a1), (2, .int a2), (3, .int a3), (4, .int a4)]) [0, 1, 2, 3, 4] rfl ?_
  refine x_aload_n B dX7_sorts_0 rfl 0 rfl ?_
  refine x_iload_n B dX7_sorts_1 rfl 1 rfl ?_
  obtain ⟨r2, e1, hf⟩ := x_ps hf
  refine x_callV (As := [.int a1]) (st := []) B G (mX7_isGesture (l := l) G.1.2.1  e1) (cwV 1 B.2.2.2.2.1 gX7_sorts_X7_isGesture rfl rfl rfl hdX7_isGesture (x_rm_ok (by omega) (by decide))) (by decide) s_c0 rfl rfl rfl (Nat.le_of_ble_eq_true rfl) ⟨Nat.zero_le _, Nat.zero_le _⟩ dX7_sorts_2 ?_
  refine x_if_eq (tgt := 19) B dX7_sorts_5 (by decide) (fun h3 => ?_) (fun h3 => ?_)
  · replace hf := x_it h3 hf
    refine x_ldc (v := (-1000001)) B iX7_sorts_0 dX7_sorts_19 ?_
    refine x_sub [0, 1, 2, 3, 4] rfl ?_
    exact kX7_sorts_21 B G hr hf
  · replace hf := x_if h3 hf
    refine x_aload_n B dX7_sorts_8 rfl 0 rfl ?_
    refine x_iload_n B dX7_sorts_9 rfl 2 rfl ?_
    refine x_iload_n B dX7_sorts_10 rfl 3 rfl ?_
    refine x_iload B dX7_sorts_11 4 rfl ?_
    obtain ⟨r5, σ6, e4, hf⟩ := x_bs hf
    refine x_callV (As := [.int a2, .int a3, .int a4]) (st := []) B G (mX7_refusalOfThread (l := l) G.1.2.1  e4) (cwV 3 B.2.2.2.2.1 gX7_sorts_X7_refusalOfThread rfl rfl rfl hdX7_refusalOfThread (x_rm_ok (by omega) (by decide))) (by decide) s_c0 rfl rfl rfl (Nat.le_of_ble_eq_true rfl) ⟨Nat.zero_le _, Nat.zero_le _⟩ dX7_sorts_13 ?_
    refine x_goto (tgt := 21) B dX7_sorts_16 (by decide) ?_
    refine x_sub [0, 1, 2, 3, 4] rfl ?_
    exact kX7_sorts_21 B G hr hf
theorem iX7_saved_0 : Cond.fieldLink RX7 26 "SignDuty" "city" "LSignDuty$City;" ∈ wsX7_saved := by decide +kernel
theorem iX7_saved_cX7 : ∀ w ∈ u_ws RX7 TX7 9, w ∈ wsX7_saved := by decide +kernel
theorem iX7_saved_2 : Cond.fieldLink RX7 238 "SignDuty$City" "streets" "I" ∈ wsX7_saved := by decide +kernel
theorem iX7_saved_cX2 : ∀ w ∈ u_ws RX2 TX2 13, w ∈ wsX7_saved := by decide +kernel
theorem iX7_saved_4 : Cond.constant RX7 70 (-1000001) ∈ wsX7_saved := by decide +kernel
set_option maxRecDepth 100000 in
set_option maxHeartbeats 4000000 in
theorem qX7_saved_15 {σ : x_S} {x1 : Int32} {x2 : Int32} {x3 : Int32} {K15 : Int32 → Int32 → Option Int32} (B : x_B p s m args meth c cX7_saved 4 wsX7_saved RX7) (G : x_H s D vwCl (s_tys cI cQ cC cZ) s_N ad (x_A s_N ad) (s_St aS) s_NW) (hr : meth.sig.returnType = (some .int)) (hK15 : ∀ (x2 : Int32) (x3 : Int32), K15 x2 x3 = some r0 → x_J p l e (x_rm 4) s m args below meth c 0 0 (MQ below (x_Qi D vwCl s_N (s_C cI cQ cC ad) ad r0 σ) args s 0 0 (x_A s_N ad)) (x_A s_N ad) 4 (x_I D vwCl s_N (s_C cI cQ cC ad) ad σ) [(0, .ref (ad 0)), (1, .int x1), (2, .int x2), (3, .int x3)] [] 15) (hf : gX7_saved_15  x1 K15 x2 x3 σ = some r0) : x_J p l e (x_rm 4) s m args below meth c 0 0 (MQ below (x_Qi D vwCl s_N (s_C cI cQ cC ad) ad r0 σ) args s 0 0 (x_A s_N ad)) (x_A s_N ad) 4 (x_I D vwCl s_N (s_C cI cQ cC ad) ad σ) [(0, .ref (ad 0)), (1, .int x1), (2, .int x2), (3, .int x3)] [] 15 := by
  unfold gX7_saved_15 at hf
  refine x_iload_n B dX7_saved_15 rfl 3 rfl ?_
  refine x_aload_n B dX7_saved_16 rfl 0 rfl ?_
  refine x_get (v := .ref (ad 32)) (kc := 0) (index := 26) B G.1 iX7_saved_cX7 rfl (by decide) s_c0 2 (by decide) iX7_saved_0 rfl dX7_saved_17 ?_
  refine x_get (v := .int (σ 32 3)) (kc := 32) (index := 238) B G.1 iX7_saved_cX2 rfl (s_kC s_iC32) (s_cC s_iC32) 3 (by decide) iX7_saved_2 rfl dX7_saved_20 ?_
  refine x_icmp_ge (tgt := 54) B dX7_saved_23 (by decide) (fun h1 => ?_) (fun h1 => ?_)
  · replace hf := x_it h1 hf
    refine x_iload_n B dX7_saved_54 rfl 2 rfl ?_
    obtain rfl := x_retP hf
    exact x_iret B hr dX7_saved_55
  · replace hf := x_if h1 hf
    refine x_iload_n B dX7_saved_26 rfl 2 rfl ?_
    refine x_aload_n B dX7_saved_27 rfl 0 rfl ?_
    refine x_get (v := .ref (ad 32)) (kc := 0) (index := 26) B G.1 iX7_saved_cX7 rfl (by decide) s_c0 2 (by decide) iX7_saved_0 rfl dX7_saved_28 ?_
    refine x_iload_n B dX7_saved_31 rfl 1 rfl ?_
    refine x_iload_n B dX7_saved_32 rfl 3 rfl ?_
    obtain ⟨r3, e2, hf⟩ := x_ps hf
    refine x_callV (As := [.int x1, .int x3]) (st := [.int x2]) B G (mX2_owes (l := l) G.1.2.1 s_iC32 e2) (cwV 2 B.2.2.2.2.1 gX7_saved_X2_owes rfl rfl rfl hdX2_owes (x_rm_ok (by omega) (by decide))) (s_kC s_iC32) (s_cC s_iC32) rfl rfl rfl (Nat.le_of_ble_eq_true rfl) ⟨Nat.zero_le _, Nat.zero_le _⟩ dX7_saved_33 ?_
    refine x_aload_n B dX7_saved_36 rfl 0 rfl ?_
    refine x_get (v := .ref (ad 32)) (kc := 0) (index := 26) B G.1 iX7_saved_cX7 rfl (by decide) s_c0 2 (by decide) iX7_saved_0 rfl dX7_saved_37 ?_
    refine x_iload_n B dX7_saved_40 rfl 1 rfl ?_
    refine x_iload_n B dX7_saved_41 rfl 3 rfl ?_
    obtain ⟨r5, e4, hf⟩ := x_ps hf
    refine x_callV (As := [.int x1, .int x3]) (st := [.int r3, .int x2]) B G (mX2_owesIfKnown (l := l) G.1.2.1 s_iC32 e4) (cwV 2 B.2.2.2.2.1 gX7_saved_X2_owesIfKnown rfl rfl rfl hdX2_owesIfKnown (x_rm_ok (by omega) (by decide))) (s_kC s_iC32) (s_cC s_iC32) rfl rfl rfl (Nat.le_of_ble_eq_true rfl) ⟨Nat.zero_le _, Nat.zero_le _⟩ dX7_saved_42 ?_
    refine x_isub B dX7_saved_45 ?_
    refine x_iadd B dX7_saved_46 ?_
    refine x_istore_n (lv' := [(2, .int (x2 + (r3 - r5))), (0, .ref (ad 0)), (1, .int x1), (3, .int x3)]) B dX7_saved_47 rfl (by decide) rfl ?_
    refine x_iinc (v := (x3 + 1)) (lv' := [(3, .int (x3 + 1)), (2, .int (x2 + (r3 - r5))), (0, .ref (ad 0)), (1, .int x1)]) B dX7_saved_48 3 rfl rfl (by decide) rfl ?_
    refine x_goto (tgt := 15) B dX7_saved_51 (by decide) ?_
    refine x_sub [2, 3, 1, 0] rfl ?_
    exact hK15 _ _ hf
set_option maxRecDepth 100000 in
set_option maxHeartbeats 4000000 in
theorem kX7_saved_15 {σ : x_S} {x1 : Int32} {x2 : Int32} {x3 : Int32} (B : x_B p s m args meth c cX7_saved 4 wsX7_saved RX7) (G : x_H s D vwCl (s_tys cI cQ cC cZ) s_N ad (x_A s_N ad) (s_St aS) s_NW) (hr : meth.sig.returnType = (some .int)) (hf : bX7_saved_15  x1 x2 x3 σ = some r0) : x_J p l e (x_rm 4) s m args below meth c 0 0 (MQ below (x_Qi D vwCl s_N (s_C cI cQ cC ad) ad r0 σ) args s 0 0 (x_A s_N ad)) (x_A s_N ad) 4 (x_I D vwCl s_N (s_C cI cQ cC ad) ad σ) [(0, .ref (ad 0)), (1, .int x1), (2, .int x2), (3, .int x3)] [] 15 := by
  have key : ∀ (n : Nat) (x2 : Int32) (x3 : Int32), x_fx (α := Int32 → Int32 → Option Int32) (fun _ _ => none) (fun K => fun x2 x3 => gX7_saved_15  x1 K x2 x3 σ) n x2 x3 = some r0 → x_J p l e (x_rm 4) s m args below meth c 0 0 (MQ below (x_Qi D vwCl s_N (s_C cI cQ cC ad) ad r0 σ) args s 0 0 (x_A s_N ad)) (x_A s_N ad) 4 (x_I D vwCl s_N (s_C cI cQ cC ad) ad σ) [(0, .ref (ad 0)), (1, .int x1), (2, .int x2), (3, .int x3)] [] 15 := by
    intro n
    induction n with
    | zero => intro x2 x3 h; cases h
    | succ n ih => intro x2 x3 h; exact qX7_saved_15 B G hr  ih  h
  exact key x_F x2 x3 hf
set_option maxRecDepth 100000 in
set_option maxHeartbeats 4000000 in
theorem mX7_saved {σ : x_S} {a1 : Int32} (hdis : x_dis s_N ad) (hf : fX7_saved a1 σ = some r0) : x_NI l yX7_saved wsX7_saved 4 D vwCl (s_tys cI cQ cC cZ) s_N (s_C cI cQ cC ad) ad (s_St aS) s_NW [.ref (ad 0), .int a1] σ r0 σ := by
  refine x_met (cc := cX7_saved) (own := RX7) (maxL := 4) (ret := (some .int)) (by decide +kernel) rfl rfl (Nat.le_of_ble_eq_true rfl) hdis (s_StOk aS) s_NwOk (fun p e s m args below meth c B G hr => ?_)
  unfold fX7_saved at hf
  refine x_sub (lv' := [(0, .ref (ad 0)), (1, .int a1)]) [0, 1] rfl ?_
  refine x_aload_n B dX7_saved_0 rfl 0 rfl ?_
  refine x_iload_n B dX7_saved_1 rfl 1 rfl ?_
  obtain ⟨r2, e1, hf⟩ := x_ps hf
  refine x_callV (As := [.int a1]) (st := []) B G (mX7_isGesture (l := l) G.1.2.1  e1) (cwV 1 B.2.2.2.2.1 gX7_saved_X7_isGesture rfl rfl rfl hdX7_isGesture (x_rm_ok (by omega) (by decide))) (by decide) s_c0 rfl rfl rfl (Nat.le_of_ble_eq_true rfl) ⟨Nat.zero_le _, Nat.zero_le _⟩ dX7_saved_2 ?_
  refine x_if_ne (tgt := 11) B dX7_saved_5 (by decide) (fun h3 => ?_) (fun h3 => ?_)
  · replace hf := x_if h3 hf
    refine x_iconst (v := 0) B dX7_saved_11 (by decide) ?_
    refine x_istore_n (lv' := [(2, .int 0), (0, .ref (ad 0)), (1, .int a1)]) B dX7_saved_12 rfl (by decide) rfl ?_
    refine x_iconst (v := 0) B dX7_saved_13 (by decide) ?_
    refine x_istore_n (lv' := [(3, .int 0), (2, .int 0), (0, .ref (ad 0)), (1, .int a1)]) B dX7_saved_14 rfl (by decide) rfl ?_
    refine x_sub [2, 3, 1, 0] rfl ?_
    exact kX7_saved_15 B G hr hf
  · replace hf := x_it h3 hf
    refine x_ldc (v := (-1000001)) B iX7_saved_4 dX7_saved_8 ?_
    obtain rfl := x_retP hf
    exact x_iret B hr dX7_saved_10
theorem iX7_worst_0 : Cond.constant RX7 70 (-1000001) ∈ wsX7_worst := by decide +kernel
theorem iX7_worst_1 : Cond.fieldLink RX7 26 "SignDuty" "city" "LSignDuty$City;" ∈ wsX7_worst := by decide +kernel
theorem iX7_worst_cX7 : ∀ w ∈ u_ws RX7 TX7 9, w ∈ wsX7_worst := by decide +kernel
theorem iX7_worst_3 : Cond.fieldLink RX7 238 "SignDuty$City" "streets" "I" ∈ wsX7_worst := by decide +kernel
theorem iX7_worst_cX2 : ∀ w ∈ u_ws RX2 TX2 13, w ∈ wsX7_worst := by decide +kernel
theorem iX7_worst_5 : Cond.constant RX7 221 (-1000000) ∈ wsX7_worst := by decide +kernel
set_option maxRecDepth 100000 in
set_option maxHeartbeats 4000000 in
theorem mX7_worst {σ : x_S} {a1 : Int32} {a2 : Int32} (hdis : x_dis s_N ad) (hf : fX7_worst a1 a2 σ = some r0) : x_NI l yX7_worst wsX7_worst 5 D vwCl (s_tys cI cQ cC cZ) s_N (s_C cI cQ cC ad) ad (s_St aS) s_NW [.ref (ad 0), .int a1, .int a2] σ r0 σ := by
  refine x_met (cc := cX7_worst) (own := RX7) (maxL := 4) (ret := (some .int)) (by decide +kernel) rfl rfl (Nat.le_of_ble_eq_true rfl) hdis (s_StOk aS) s_NwOk (fun p e s m args below meth c B G hr => ?_)
  unfold fX7_worst at hf
  refine x_sub (lv' := [(0, .ref (ad 0)), (1, .int a1), (2, .int a2)]) [0, 1, 2] rfl ?_
  refine x_aload_n B dX7_worst_0 rfl 0 rfl ?_
  refine x_iload_n B dX7_worst_1 rfl 1 rfl ?_
  obtain ⟨r2, e1, hf⟩ := x_ps hf
  refine x_callV (As := [.int a1]) (st := []) B G (mX7_isGesture (l := l) G.1.2.1  e1) (cwV 1 B.2.2.2.2.1 gX7_worst_X7_isGesture rfl rfl rfl hdX7_isGesture (x_rm_ok (by omega) (by decide))) (by decide) s_c0 rfl rfl rfl (Nat.le_of_ble_eq_true rfl) ⟨Nat.zero_le _, Nat.zero_le _⟩ dX7_worst_2 ?_
  refine x_if_eq (tgt := 17) B dX7_worst_5 (by decide) (fun h3 => ?_) (fun h3 => ?_)
  · replace hf := x_it h3 hf
    refine x_ldc (v := (-1000001)) B iX7_worst_0 dX7_worst_17 ?_
    obtain rfl := x_retP hf
    exact x_iret B hr dX7_worst_19
  · replace hf := x_if h3 hf
    refine x_iload_n B dX7_worst_8 rfl 2 rfl ?_
    refine x_iconst (v := 0) B dX7_worst_9 (by decide) ?_
    refine x_iconst (v := 1) B dX7_worst_10 (by decide) ?_
    obtain ⟨r5, e4, hf⟩ := x_ps hf
    refine x_callS (As := [.int a2, .int 0, .int 1]) (st := []) B G (mX7_isWithin (l := l) G.1.2.1  e4) (va_cwS 3 B.2.2.2.2.1 gX7_worst_X7_isWithin rfl rfl rfl hdX7_isWithin (x_rm_ok (by omega) (by decide))) rfl rfl (Nat.le_of_ble_eq_true rfl) ⟨Nat.zero_le _, Nat.zero_le _⟩ dX7_worst_11 ?_
    refine x_if_ne (tgt := 20) B dX7_worst_14 (by decide) (fun h6 => ?_) (fun h6 => ?_)
    · replace hf := x_if h6 hf
      refine x_aload_n B dX7_worst_20 rfl 0 rfl ?_
      refine x_get (v := .ref (ad 32)) (kc := 0) (index := 26) B G.1 iX7_worst_cX7 rfl (by decide) s_c0 2 (by decide) iX7_worst_1 rfl dX7_worst_21 ?_
      refine x_get (v := .int (σ 32 3)) (kc := 32) (index := 238) B G.1 iX7_worst_cX2 rfl (s_kC s_iC32) (s_cC s_iC32) 3 (by decide) iX7_worst_3 rfl dX7_worst_24 ?_
      refine x_if_ne (tgt := 33) B dX7_worst_27 (by decide) (fun h7 => ?_) (fun h7 => ?_)
      · replace hf := x_if h7 hf
        refine x_aload_n B dX7_worst_33 rfl 0 rfl ?_
        refine x_get (v := .ref (ad 32)) (kc := 0) (index := 26) B G.1 iX7_worst_cX7 rfl (by decide) s_c0 2 (by decide) iX7_worst_1 rfl dX7_worst_34 ?_
        refine x_iload_n B dX7_worst_37 rfl 1 rfl ?_
        obtain ⟨r9, e8, hf⟩ := x_ps hf
        refine x_callV (As := [.int a1]) (st := []) B G (mX2_dearestStreet (l := l) G.1.2.1 s_iC32 e8) (cwV 1 B.2.2.2.2.1 gX7_worst_X2_dearestStreet rfl rfl rfl hdX2_dearestStreet (x_rm_ok (by omega) (by decide))) (s_kC s_iC32) (s_cC s_iC32) rfl rfl rfl (Nat.le_of_ble_eq_true rfl) ⟨Nat.zero_le _, Nat.zero_le _⟩ dX7_worst_38 ?_
        refine x_istore_n (lv' := [(3, .int r9), (0, .ref (ad 0)), (1, .int a1), (2, .int a2)]) B dX7_worst_41 rfl (by decide) rfl ?_
        refine x_iload_n B dX7_worst_42 rfl 3 rfl ?_
        refine x_if_ne (tgt := 50) B dX7_worst_43 (by decide) (fun h10 => ?_) (fun h10 => ?_)
        · replace hf := x_if h10 hf
          refine x_aload_n B dX7_worst_50 rfl 1 rfl ?_
          refine x_get (v := .ref (ad 32)) (kc := 0) (index := 26) B G.1 iX7_worst_cX7 rfl (by decide) s_c0 2 (by decide) iX7_worst_1 rfl dX7_worst_51 ?_
          refine x_iload_n B dX7_worst_54 rfl 2 rfl ?_
          refine x_iload_n B dX7_worst_55 rfl 0 rfl ?_
          obtain ⟨r12, e11, hf⟩ := x_ps hf
          refine x_callV (As := [.int a1, .int r9]) (st := []) B G (mX2_owes (l := l) G.1.2.1 s_iC32 e11) (cwV 2 B.2.2.2.2.1 gX7_worst_X2_owes rfl rfl rfl hdX2_owes (x_rm_ok (by omega) (by decide))) (s_kC s_iC32) (s_cC s_iC32) rfl rfl rfl (Nat.le_of_ble_eq_true rfl) ⟨Nat.zero_le _, Nat.zero_le _⟩ dX7_worst_56 ?_
          obtain rfl := x_retP hf
          exact x_iret B hr dX7_worst_59
        · replace hf := x_it h10 hf
          refine x_iload_n B dX7_worst_46 rfl 0 rfl ?_
          refine x_goto (tgt := 59) B dX7_worst_47 (by decide) ?_
          obtain rfl := x_retP hf
          exact x_iret B hr dX7_worst_59
      · replace hf := x_it h7 hf
        refine x_ldc (v := (-1000000)) B iX7_worst_5 dX7_worst_30 ?_
        obtain rfl := x_retP hf
        exact x_iret B hr dX7_worst_32
    · replace hf := x_it h6 hf
      refine x_ldc (v := (-1000001)) B iX7_worst_0 dX7_worst_17 ?_
      obtain rfl := x_retP hf
      exact x_iret B hr dX7_worst_19
theorem iX7_tenthsWithin_0 : Cond.fieldLink RX7 225 "SignDuty$City" "kind" "[I" ∈ wsX7_tenthsWithin := by decide +kernel
theorem iX7_tenthsWithin_cX2 : ∀ w ∈ u_ws RX2 TX2 13, w ∈ wsX7_tenthsWithin := by decide +kernel
theorem iX7_tenthsWithin_2 : Cond.fieldLink RX7 163 "SignDuty$City" "inches" "[I" ∈ wsX7_tenthsWithin := by decide +kernel
set_option maxRecDepth 100000 in
set_option maxHeartbeats 4000000 in
theorem nX7_tenthsWithin {σ : x_S} {rec : Nat → Int32 → Int32 → Int32 → Int32 → Int32 → x_S → Option Int32} {c0 : Nat} {a1 : Int32} {a2 : Int32} {a3 : Int32} {a4 : Int32} {a5 : Int32} (hdis : x_dis s_N ad) (hrec : ∀ (c0 : Nat) (a1 : Int32) (a2 : Int32) (a3 : Int32) (a4 : Int32) (a5 : Int32) (σ : x_S) (r0 : Int32), s_iC c0 → rec c0 a1 a2 a3 a4 a5 σ = some r0 → x_NI l yX7_tenthsWithin wsX7_tenthsWithin k D vwCl (s_tys cI cQ cC cZ) s_N (s_C cI cQ cC ad) ad (s_St aS) s_NW [.ref (ad c0), .int a1, .int a2, .int a3, .int a4, .int a5] σ r0 σ) (hc0 : s_iC c0) (hf : hX7_tenthsWithin rec c0 a1 a2 a3 a4 a5 σ = some r0) : x_NI l yX7_tenthsWithin wsX7_tenthsWithin (k + 3) D vwCl (s_tys cI cQ cC cZ) s_N (s_C cI cQ cC ad) ad (s_St aS) s_NW [.ref (ad c0), .int a1, .int a2, .int a3, .int a4, .int a5] σ r0 σ := by
  refine x_met (cc := cX7_tenthsWithin) (own := RX7) (maxL := 10) (ret := (some .int)) (by decide +kernel) rfl rfl (Nat.le_of_ble_eq_true rfl) hdis (s_StOk aS) s_NwOk (fun p e s m args below meth c B G hr => ?_)
  unfold hX7_tenthsWithin at hf
  refine x_sub (lv' := [(0, .ref (ad c0)), (1, .int a1), (2, .int a2), (3, .int a3), (4, .int a4), (5, .int a5)]) [0, 1, 2, 3, 4, 5] rfl ?_
  refine x_iload B dX7_tenthsWithin_0 4 rfl ?_
  refine x_if_ge (tgt := 7) B dX7_tenthsWithin_2 (by decide) (fun h1 => ?_) (fun h1 => ?_)
  · replace hf := x_it h1 hf
    refine x_iload_n B dX7_tenthsWithin_7 rfl 2 rfl ?_
    refine x_iload_n B dX7_tenthsWithin_8 rfl 3 rfl ?_
    refine x_icmp_gt (tgt := 22) B dX7_tenthsWithin_9 (by decide) (fun h2 => ?_) (fun h2 => ?_)
    · replace hf := x_it h2 hf
      refine x_iconst (v := 1) B dX7_tenthsWithin_22 (by decide) ?_
      obtain rfl := x_retP hf
      exact x_iret B hr dX7_tenthsWithin_23
    · replace hf := x_if h2 hf
      refine x_iload_n B dX7_tenthsWithin_12 rfl 2 rfl ?_
      refine x_if_lt (tgt := 22) B dX7_tenthsWithin_13 (by decide) (fun h3 => ?_) (fun h3 => ?_)
      · replace hf := x_it h3 hf
        refine x_iconst (v := 1) B dX7_tenthsWithin_22 (by decide) ?_
        obtain rfl := x_retP hf
        exact x_iret B hr dX7_tenthsWithin_23
      · replace hf := x_if h3 hf
        refine x_iload_n B dX7_tenthsWithin_16 rfl 2 rfl ?_
        refine x_bipush (v := 7) B dX7_tenthsWithin_17 (by decide) ?_
        refine x_icmp_lt (tgt := 24) B dX7_tenthsWithin_19 (by decide) (fun h4 => ?_) (fun h4 => ?_)
        · replace hf := x_it h4 hf
          refine x_aload_n B dX7_tenthsWithin_24 rfl 0 rfl ?_
          refine x_get (v := .ref (ad (c0 + 3))) (kc := c0) (index := 225) B G.1 iX7_tenthsWithin_cX2 rfl (s_kC hc0) (s_cC hc0) 8 (by decide) iX7_tenthsWithin_0 rfl dX7_tenthsWithin_25 ?_
          refine x_iload_n B dX7_tenthsWithin_28 rfl 1 rfl ?_
          obtain ⟨h5, hf⟩ := x_gs hf
          refine x_iald (kc := c0 + 3) (t0 := 0) B G.1 (s_kC3 hc0) (s_cC3 hc0) rfl h5 dX7_tenthsWithin_29 ?_
          refine x_istore (lv' := [(6, .int (σ (c0 + 3) a1.toNatClampNeg)), (0, .ref (ad c0)), (1, .int a1), (2, .int a2), (3, .int a3), (4, .int a4), (5, .int a5)]) B dX7_tenthsWithin_30 (by decide) rfl ?_
          refine x_aload_n B dX7_tenthsWithin_32 rfl 1 rfl ?_
          refine x_get (v := .ref (ad (c0 + 4))) (kc := c0) (index := 163) B G.1 iX7_tenthsWithin_cX2 rfl (s_kC hc0) (s_cC hc0) 9 (by decide) iX7_tenthsWithin_2 rfl dX7_tenthsWithin_33 ?_
          refine x_iload_n B dX7_tenthsWithin_36 rfl 2 rfl ?_
          obtain ⟨h6, hf⟩ := x_gs hf
          refine x_iald (kc := c0 + 4) (t0 := 0) B G.1 (s_kC4 hc0) (s_cC4 hc0) rfl h6 dX7_tenthsWithin_37 ?_
          refine x_istore (lv' := [(7, .int (σ (c0 + 4) a1.toNatClampNeg)), (6, .int (σ (c0 + 3) a1.toNatClampNeg)), (0, .ref (ad c0)), (1, .int a1), (2, .int a2), (3, .int a3), (4, .int a4), (5, .int a5)]) B dX7_tenthsWithin_38 (by decide) rfl ?_
          refine x_iload B dX7_tenthsWithin_40 6 rfl ?_
          refine x_aload_n B dX7_tenthsWithin_42 rfl 2 rfl ?_
          refine x_iload B dX7_tenthsWithin_43 1 rfl ?_
          refine x_iload B dX7_tenthsWithin_45 0 rfl ?_
          refine x_iload_n B dX7_tenthsWithin_47 rfl 4 rfl ?_
          obtain ⟨r8, e7, hf⟩ := x_ps hf
          refine x_callV (As := [.int (σ (c0 + 3) a1.toNatClampNeg), .int (σ (c0 + 4) a1.toNatClampNeg), .int a2]) (st := [.int a4]) B G (mX2_owesSuch (l := l) G.1.2.1 hc0 e7) (cwV 3 B.2.2.2.2.1 gX7_tenthsWithin_X2_owesSuch rfl rfl rfl hdX2_owesSuch (x_rm_ok (by omega) (by decide))) (s_kC hc0) (s_cC hc0) rfl rfl rfl (Nat.le_of_ble_eq_true rfl) ⟨Nat.zero_le _, Nat.zero_le _⟩ dX7_tenthsWithin_48 ?_
          refine x_isub B dX7_tenthsWithin_51 ?_
          refine x_istore (lv' := [(8, .int (a4 - r8)), (7, .int (σ (c0 + 4) a1.toNatClampNeg)), (6, .int (σ (c0 + 3) a1.toNatClampNeg)), (0, .ref (ad c0)), (1, .int a1), (2, .int a2), (3, .int a3), (4, .int a4), (5, .int a5)]) B dX7_tenthsWithin_52 (by decide) rfl ?_
          refine x_iload B dX7_tenthsWithin_54 7 rfl ?_
          refine x_aload_n B dX7_tenthsWithin_56 rfl 3 rfl ?_
          refine x_iload B dX7_tenthsWithin_57 2 rfl ?_
          refine x_iload B dX7_tenthsWithin_59 1 rfl ?_
          refine x_iconst (v := 1) B dX7_tenthsWithin_61 (by decide) ?_
          refine x_iadd B dX7_tenthsWithin_62 ?_
          refine x_iload_n B dX7_tenthsWithin_63 rfl 5 rfl ?_
          obtain ⟨r10, e9, hf⟩ := x_ps hf
          refine x_callV (As := [.int (σ (c0 + 3) a1.toNatClampNeg), .int ((σ (c0 + 4) a1.toNatClampNeg) + 1), .int a2]) (st := [.int a4]) B G (mX2_owesSuch (l := l) G.1.2.1 hc0 e9) (cwV 3 B.2.2.2.2.1 gX7_tenthsWithin_X2_owesSuch rfl rfl rfl hdX2_owesSuch (x_rm_ok (by omega) (by decide))) (s_kC hc0) (s_cC hc0) rfl rfl rfl (Nat.le_of_ble_eq_true rfl) ⟨Nat.zero_le _, Nat.zero_le _⟩ dX7_tenthsWithin_64 ?_
          refine x_isub B dX7_tenthsWithin_67 ?_
          refine x_istore (lv' := [(9, .int (a4 - r10)), (8, .int (a4 - r8)), (7, .int (σ (c0 + 4) a1.toNatClampNeg)), (6, .int (σ (c0 + 3) a1.toNatClampNeg)), (0, .ref (ad c0)), (1, .int a1), (2, .int a2), (3, .int a3), (4, .int a4), (5, .int a5)]) B dX7_tenthsWithin_68 (by decide) rfl ?_
          refine x_bipush (v := 10) B dX7_tenthsWithin_70 (by decide) ?_
          refine x_iload B dX7_tenthsWithin_72 9 rfl ?_
          refine x_isub B dX7_tenthsWithin_74 ?_
          refine x_aload_n B dX7_tenthsWithin_75 rfl 4 rfl ?_
          refine x_iload_n B dX7_tenthsWithin_76 rfl 5 rfl ?_
          refine x_iload_n B dX7_tenthsWithin_77 rfl 6 rfl ?_
          refine x_iconst (v := 1) B dX7_tenthsWithin_78 (by decide) ?_
          refine x_iadd B dX7_tenthsWithin_79 ?_
          refine x_iload_n B dX7_tenthsWithin_80 rfl 7 rfl ?_
          refine x_iload B dX7_tenthsWithin_81 1 rfl ?_
          refine x_iload B dX7_tenthsWithin_83 9 rfl ?_
          obtain ⟨r12, e11, hf⟩ := x_ps hf
          refine x_callS (As := [.ref (ad c0), .int a1, .int (a2 + 1), .int a3, .int (a4 - r8), .int a5]) (st := [.int (10 - a5)]) B G (hrec _ _ _ _ _ _ _ _ hc0 e11) (va_cwS 6 B.2.2.2.2.1 gX7_tenthsWithin_X7_tenthsWithin rfl rfl rfl hdX7_tenthsWithin (x_rm_ok (by omega) (by decide))) rfl rfl (Nat.le_of_ble_eq_true rfl) ⟨Nat.zero_le _, Nat.zero_le _⟩ dX7_tenthsWithin_85 ?_
          refine x_imul B dX7_tenthsWithin_88 ?_
          refine x_iload B dX7_tenthsWithin_89 9 rfl ?_
          refine x_aload_n B dX7_tenthsWithin_91 rfl 4 rfl ?_
          refine x_iload_n B dX7_tenthsWithin_92 rfl 5 rfl ?_
          refine x_iload_n B dX7_tenthsWithin_93 rfl 6 rfl ?_
          refine x_iconst (v := 1) B dX7_tenthsWithin_94 (by decide) ?_
          refine x_iadd B dX7_tenthsWithin_95 ?_
          refine x_iload_n B dX7_tenthsWithin_96 rfl 7 rfl ?_
          refine x_iload B dX7_tenthsWithin_97 0 rfl ?_
          refine x_iload B dX7_tenthsWithin_99 9 rfl ?_
          obtain ⟨r14, e13, hf⟩ := x_ps hf
          refine x_callS (As := [.ref (ad c0), .int a1, .int (a2 + 1), .int a3, .int (a4 - r10), .int a5]) (st := [.int a5, .int ((10 - a5) * r12)]) B G (hrec _ _ _ _ _ _ _ _ hc0 e13) (va_cwS 6 B.2.2.2.2.1 gX7_tenthsWithin_X7_tenthsWithin rfl rfl rfl hdX7_tenthsWithin (x_rm_ok (by omega) (by decide))) rfl rfl (Nat.le_of_ble_eq_true rfl) ⟨Nat.zero_le _, Nat.zero_le _⟩ dX7_tenthsWithin_101 ?_
          refine x_imul B dX7_tenthsWithin_104 ?_
          refine x_iadd B dX7_tenthsWithin_105 ?_
          obtain rfl := x_retP hf
          exact x_iret B hr dX7_tenthsWithin_106
        · replace hf := x_if h4 hf
          refine x_iconst (v := 1) B dX7_tenthsWithin_22 (by decide) ?_
          obtain rfl := x_retP hf
          exact x_iret B hr dX7_tenthsWithin_23
  · replace hf := x_if h1 hf
    refine x_iconst (v := 0) B dX7_tenthsWithin_5 (by decide) ?_
    obtain rfl := x_retP hf
    exact x_iret B hr dX7_tenthsWithin_6
set_option maxRecDepth 100000 in
set_option maxHeartbeats 4000000 in
theorem mX7_tenthsWithin_n (hdis : x_dis s_N ad) : ∀ (n : Nat) (c0 : Nat) (a1 : Int32) (a2 : Int32) (a3 : Int32) (a4 : Int32) (a5 : Int32) (σ : x_S) (r0 : Int32), s_iC c0 → fX7_tenthsWithin_n n c0 a1 a2 a3 a4 a5 σ = some r0 → x_NI l yX7_tenthsWithin wsX7_tenthsWithin (0 + 3 * n) D vwCl (s_tys cI cQ cC cZ) s_N (s_C cI cQ cC ad) ad (s_St aS) s_NW [.ref (ad c0), .int a1, .int a2, .int a3, .int a4, .int a5] σ r0 σ := by
  intro n
  induction n with
  | zero => intro c0 a1 a2 a3 a4 a5 σ r0 hc0 h; cases h
  | succ n ih =>
    intro c0 a1 a2 a3 a4 a5 σ r0 hc0 h
    have := nX7_tenthsWithin (l := l) (rec := fX7_tenthsWithin_n n) (k := 0 + 3 * n) hdis ih hc0 h
    exact this
set_option maxRecDepth 100000 in
set_option maxHeartbeats 4000000 in
theorem qX7_commonDivisor_7 {σ : x_S} {x2 : Int32} {x3 : Int32} {x4 : Int32} {K7 : Int32 → Int32 → Int32 → Option Int32} (B : x_B p s m args meth c cX7_commonDivisor 6 wsX7_commonDivisor RX7) (G : x_H s D vwCl (s_tys cI cQ cC cZ) s_N ad (x_A s_N ad) (s_St aS) s_NW) (hr : meth.sig.returnType = (some .int)) (hK7 : ∀ (x2 : Int32) (x3 : Int32) (x4 : Int32), K7 x2 x3 x4 = some r0 → x_J p l e (x_rm 0) s m args below meth c 0 0 (MQ below (x_Qi D vwCl s_N (s_C cI cQ cC ad) ad r0 σ) args s 0 0 (x_A s_N ad)) (x_A s_N ad) 6 (x_I D vwCl s_N (s_C cI cQ cC ad) ad σ) [(2, .int x2), (3, .int x3), (4, .int x4)] [] 7) (hf : gX7_commonDivisor_7   K7 x2 x3 x4 σ = some r0) : x_J p l e (x_rm 0) s m args below meth c 0 0 (MQ below (x_Qi D vwCl s_N (s_C cI cQ cC ad) ad r0 σ) args s 0 0 (x_A s_N ad)) (x_A s_N ad) 6 (x_I D vwCl s_N (s_C cI cQ cC ad) ad σ) [(2, .int x2), (3, .int x3), (4, .int x4)] [] 7 := by
  unfold gX7_commonDivisor_7 at hf
  refine x_iload B dX7_commonDivisor_7 2 rfl ?_
  refine x_bipush (v := 100) B dX7_commonDivisor_9 (by decide) ?_
  refine x_icmp_ge (tgt := 34) B dX7_commonDivisor_11 (by decide) (fun h1 => ?_) (fun h1 => ?_)
  · replace hf := x_it h1 hf
    refine x_iload_n B dX7_commonDivisor_34 rfl 0 rfl ?_
    obtain rfl := x_retP hf
    exact x_iret B hr dX7_commonDivisor_35
  · replace hf := x_if h1 hf
    refine x_iload_n B dX7_commonDivisor_14 rfl 1 rfl ?_
    refine x_if_eq (tgt := 34) B dX7_commonDivisor_15 (by decide) (fun h2 => ?_) (fun h2 => ?_)
    · replace hf := x_it h2 hf
      refine x_iload_n B dX7_commonDivisor_34 rfl 0 rfl ?_
      obtain rfl := x_retP hf
      exact x_iret B hr dX7_commonDivisor_35
    · replace hf := x_if h2 hf
      refine x_iload_n B dX7_commonDivisor_18 rfl 0 rfl ?_
      refine x_iload_n B dX7_commonDivisor_19 rfl 1 rfl ?_
      obtain ⟨h3, hf⟩ := x_gs hf
      refine x_irem B dX7_commonDivisor_20 h3 ?_
      refine x_istore (lv' := [(5, .int (x2 - x2 / x3 * x3)), (2, .int x2), (3, .int x3), (4, .int x4)]) B dX7_commonDivisor_21 (by decide) rfl ?_
      refine x_iload_n B dX7_commonDivisor_23 rfl 2 rfl ?_
      refine x_istore_n (lv' := [(2, .int x3), (5, .int (x2 - x2 / x3 * x3)), (3, .int x3), (4, .int x4)]) B dX7_commonDivisor_24 rfl (by decide) rfl ?_
      refine x_iload B dX7_commonDivisor_25 1 rfl ?_
      refine x_istore_n (lv' := [(3, .int (x2 - x2 / x3 * x3)), (2, .int x3), (5, .int (x2 - x2 / x3 * x3)), (4, .int x4)]) B dX7_commonDivisor_27 rfl (by decide) rfl ?_
      refine x_iinc (v := (x4 + 1)) (lv' := [(4, .int (x4 + 1)), (3, .int (x2 - x2 / x3 * x3)), (2, .int x3), (5, .int (x2 - x2 / x3 * x3))]) B dX7_commonDivisor_28 3 rfl rfl (by decide) rfl ?_
      refine x_goto (tgt := 7) B dX7_commonDivisor_31 (by decide) ?_
      refine x_sub [2, 1, 0] rfl ?_
      exact hK7 _ _ _ hf
set_option maxRecDepth 100000 in
set_option maxHeartbeats 4000000 in
theorem kX7_commonDivisor_7 {σ : x_S} {x2 : Int32} {x3 : Int32} {x4 : Int32} (B : x_B p s m args meth c cX7_commonDivisor 6 wsX7_commonDivisor RX7) (G : x_H s D vwCl (s_tys cI cQ cC cZ) s_N ad (x_A s_N ad) (s_St aS) s_NW) (hr : meth.sig.returnType = (some .int)) (hf : bX7_commonDivisor_7   x2 x3 x4 σ = some r0) : x_J p l e (x_rm 0) s m args below meth c 0 0 (MQ below (x_Qi D vwCl s_N (s_C cI cQ cC ad) ad r0 σ) args s 0 0 (x_A s_N ad)) (x_A s_N ad) 6 (x_I D vwCl s_N (s_C cI cQ cC ad) ad σ) [(2, .int x2), (3, .int x3), (4, .int x4)] [] 7 := by
  have key : ∀ (n : Nat) (x2 : Int32) (x3 : Int32) (x4 : Int32), x_fx (α := Int32 → Int32 → Int32 → Option Int32) (fun _ _ _ => none) (fun K => fun x2 x3 x4 => gX7_commonDivisor_7   K x2 x3 x4 σ) n x2 x3 x4 = some r0 → x_J p l e (x_rm 0) s m args below meth c 0 0 (MQ below (x_Qi D vwCl s_N (s_C cI cQ cC ad) ad r0 σ) args s 0 0 (x_A s_N ad)) (x_A s_N ad) 6 (x_I D vwCl s_N (s_C cI cQ cC ad) ad σ) [(2, .int x2), (3, .int x3), (4, .int x4)] [] 7 := by
    intro n
    induction n with
    | zero => intro x2 x3 x4 h; cases h
    | succ n ih => intro x2 x3 x4 h; exact qX7_commonDivisor_7 B G hr  ih  h
  exact key x_F x2 x3 x4 hf
set_option maxRecDepth 100000 in
set_option maxHeartbeats 4000000 in
theorem mX7_commonDivisor {σ : x_S} {a0 : Int32} {a1 : Int32} (hdis : x_dis s_N ad) (hf : fX7_commonDivisor a0 a1 σ = some r0) : x_NI l yX7_commonDivisor wsX7_commonDivisor 0 D vwCl (s_tys cI cQ cC cZ) s_N (s_C cI cQ cC ad) ad (s_St aS) s_NW [.int a0, .int a1] σ r0 σ := by
  refine x_met (cc := cX7_commonDivisor) (own := RX7) (maxL := 6) (ret := (some .int)) (by decide +kernel) rfl rfl (Nat.le_of_ble_eq_true rfl) hdis (s_StOk aS) s_NwOk (fun p e s m args below meth c B G hr => ?_)
  unfold fX7_commonDivisor at hf
  refine x_sub (lv' := [(0, .int a0), (1, .int a1)]) [0, 1] rfl ?_
  refine x_iload_n B dX7_commonDivisor_0 rfl 0 rfl ?_
  refine x_istore_n (lv' := [(2, .int a0), (0, .int a0), (1, .int a1)]) B dX7_commonDivisor_1 rfl (by decide) rfl ?_
  refine x_iload_n B dX7_commonDivisor_2 rfl 2 rfl ?_
  refine x_istore_n (lv' := [(3, .int a1), (2, .int a0), (0, .int a0), (1, .int a1)]) B dX7_commonDivisor_3 rfl (by decide) rfl ?_
  refine x_iconst (v := 0) B dX7_commonDivisor_4 (by decide) ?_
  refine x_istore (lv' := [(4, .int 0), (3, .int a1), (2, .int a0), (0, .int a0), (1, .int a1)]) B dX7_commonDivisor_5 (by decide) rfl ?_
  refine x_sub [2, 1, 0] rfl ?_
  exact kX7_commonDivisor_7 B G hr hf
theorem iX7_tremble_0 : Cond.constant RX7 70 (-1000001) ∈ wsX7_tremble := by decide +kernel
theorem iX7_tremble_1 : Cond.fieldLink RX7 26 "SignDuty" "city" "LSignDuty$City;" ∈ wsX7_tremble := by decide +kernel
theorem iX7_tremble_cX7 : ∀ w ∈ u_ws RX7 TX7 9, w ∈ wsX7_tremble := by decide +kernel
theorem iX7_tremble_3 : Cond.methodLink RX7 253 Lib.Math.max.name ∈ wsX7_tremble := by decide +kernel
theorem iX7_tremble_4 : Cond.static Lib.Math.max.name ∈ wsX7_tremble := by decide +kernel
theorem iX7_tremble_5 : Cond.initialized "java/lang/Math" ∈ wsX7_tremble := by decide +kernel
theorem iX7_tremble_6 : Cond.code Lib.Math.max.name Lib.Math.max.code 2 (some .int) ∈ wsX7_tremble := by decide +kernel
set_option maxRecDepth 100000 in
set_option maxHeartbeats 4000000 in
theorem qX7_tremble_78 {σ : x_S} {x3 : Int32} {x6 : Int32} {x7 : Int32} {x8 : Int32} {x9 : Int32} {K78 : Int32 → Int32 → Option Int32} (B : x_B p s m args meth c cX7_tremble 10 wsX7_tremble RX7) (G : x_H s D vwCl (s_tys cI cQ cC cZ) s_N ad (x_A s_N ad) (s_St aS) s_NW) (hr : meth.sig.returnType = (some .int)) (hK78 : ∀ (x8 : Int32) (x9 : Int32), K78 x8 x9 = some r0 → x_J p l e (x_rm 37) s m args below meth c 0 0 (MQ below (x_Qi D vwCl s_N (s_C cI cQ cC ad) ad r0 σ) args s 0 0 (x_A s_N ad)) (x_A s_N ad) 10 (x_I D vwCl s_N (s_C cI cQ cC ad) ad σ) [(3, .int x3), (6, .int x6), (7, .int x7), (8, .int x8), (9, .int x9)] [] 78) (hf : gX7_tremble_78  x3 x6 x7 K78 x8 x9 σ = some r0) : x_J p l e (x_rm 37) s m args below meth c 0 0 (MQ below (x_Qi D vwCl s_N (s_C cI cQ cC ad) ad r0 σ) args s 0 0 (x_A s_N ad)) (x_A s_N ad) 10 (x_I D vwCl s_N (s_C cI cQ cC ad) ad σ) [(3, .int x3), (6, .int x6), (7, .int x7), (8, .int x8), (9, .int x9)] [] 78 := by
  unfold gX7_tremble_78 at hf
  refine x_iload B dX7_tremble_78 4 rfl ?_
  refine x_iload_n B dX7_tremble_80 rfl 0 rfl ?_
  refine x_icmp_gt (tgt := 97) B dX7_tremble_81 (by decide) (fun h1 => ?_) (fun h1 => ?_)
  · replace hf := x_it h1 hf
    refine x_iconst (v := 1) B dX7_tremble_97 (by decide) ?_
    refine x_iload B dX7_tremble_98 2 rfl ?_
    refine x_iload B dX7_tremble_100 3 rfl ?_
    obtain ⟨r3, e2, hf⟩ := x_ps hf
    refine x_callS (As := [.int x7, .int x8]) (st := [.int 1]) B G (mX7_commonDivisor (l := l) G.1.2.1  e2) (va_cwS 2 B.2.2.2.2.1 gX7_tremble_X7_commonDivisor rfl rfl rfl hdX7_commonDivisor (x_rm_ok (by omega) (by decide))) rfl rfl (Nat.le_of_ble_eq_true rfl) ⟨Nat.zero_le _, Nat.zero_le _⟩ dX7_tremble_102 ?_
    refine x_mmax B iX7_tremble_3 iX7_tremble_4 iX7_tremble_5 iX7_tremble_6 ⟨Nat.le_of_ble_eq_true rfl, Nat.le_of_ble_eq_true rfl⟩ ⟨Nat.zero_le _, Nat.zero_le _⟩ dX7_tremble_105 ?_
    refine x_istore (lv' := [(9, .int (if 1 < r3 then r3 else 1)), (3, .int x3), (6, .int x6), (7, .int x7), (8, .int x8)]) B dX7_tremble_108 (by decide) rfl ?_
    refine x_iload B dX7_tremble_110 2 rfl ?_
    refine x_if_ne (tgt := 120) B dX7_tremble_112 (by decide) (fun h4 => ?_) (fun h4 => ?_)
    · replace hf := x_if h4 hf
      refine x_iload B dX7_tremble_120 4 rfl ?_
      refine x_iload B dX7_tremble_122 0 rfl ?_
      obtain ⟨h5, hf⟩ := x_gs hf
      refine x_idiv B dX7_tremble_124 h5 ?_
      obtain rfl := x_retP hf
      exact x_iret B hr dX7_tremble_125
    · replace hf := x_it h4 hf
      refine x_iload B dX7_tremble_115 3 rfl ?_
      refine x_goto (tgt := 122) B dX7_tremble_117 (by decide) ?_
      refine x_iload B dX7_tremble_122 0 rfl ?_
      obtain ⟨h6, hf⟩ := x_gs hf
      refine x_idiv B dX7_tremble_124 h6 ?_
      obtain rfl := x_retP hf
      exact x_iret B hr dX7_tremble_125
  · replace hf := x_if h1 hf
    refine x_iload B dX7_tremble_84 3 rfl ?_
    refine x_bipush (v := 10) B dX7_tremble_86 (by decide) ?_
    refine x_imul B dX7_tremble_88 ?_
    refine x_istore (lv' := [(8, .int (x8 * 10)), (3, .int x3), (6, .int x6), (7, .int x7), (9, .int x9)]) B dX7_tremble_89 (by decide) rfl ?_
    refine x_iinc (v := (x9 + 1)) (lv' := [(9, .int (x9 + 1)), (8, .int (x8 * 10)), (3, .int x3), (6, .int x6), (7, .int x7)]) B dX7_tremble_91 4 rfl rfl (by decide) rfl ?_
    refine x_goto (tgt := 78) B dX7_tremble_94 (by decide) ?_
    refine x_sub [2, 3, 4, 1, 0] rfl ?_
    exact hK78 _ _ hf
set_option maxRecDepth 100000 in
set_option maxHeartbeats 4000000 in
theorem kX7_tremble_78 {σ : x_S} {x3 : Int32} {x6 : Int32} {x7 : Int32} {x8 : Int32} {x9 : Int32} (B : x_B p s m args meth c cX7_tremble 10 wsX7_tremble RX7) (G : x_H s D vwCl (s_tys cI cQ cC cZ) s_N ad (x_A s_N ad) (s_St aS) s_NW) (hr : meth.sig.returnType = (some .int)) (hf : bX7_tremble_78  x3 x6 x7 x8 x9 σ = some r0) : x_J p l e (x_rm 37) s m args below meth c 0 0 (MQ below (x_Qi D vwCl s_N (s_C cI cQ cC ad) ad r0 σ) args s 0 0 (x_A s_N ad)) (x_A s_N ad) 10 (x_I D vwCl s_N (s_C cI cQ cC ad) ad σ) [(3, .int x3), (6, .int x6), (7, .int x7), (8, .int x8), (9, .int x9)] [] 78 := by
  have key : ∀ (n : Nat) (x8 : Int32) (x9 : Int32), x_fx (α := Int32 → Int32 → Option Int32) (fun _ _ => none) (fun K => fun x8 x9 => gX7_tremble_78  x3 x6 x7 K x8 x9 σ) n x8 x9 = some r0 → x_J p l e (x_rm 37) s m args below meth c 0 0 (MQ below (x_Qi D vwCl s_N (s_C cI cQ cC ad) ad r0 σ) args s 0 0 (x_A s_N ad)) (x_A s_N ad) 10 (x_I D vwCl s_N (s_C cI cQ cC ad) ad σ) [(3, .int x3), (6, .int x6), (7, .int x7), (8, .int x8), (9, .int x9)] [] 78 := by
    intro n
    induction n with
    | zero => intro x8 x9 h; cases h
    | succ n ih => intro x8 x9 h; exact qX7_tremble_78 B G hr  ih  h
  exact key x_F x8 x9 hf
set_option maxRecDepth 100000 in
set_option maxHeartbeats 4000000 in
theorem mX7_tremble {σ : x_S} {a1 : Int32} {a2 : Int32} {a3 : Int32} {a4 : Int32} {a5 : Int32} {a6 : Int32} (hdis : x_dis s_N ad) (hf : fX7_tremble a1 a2 a3 a4 a5 a6 σ = some r0) : x_NI l yX7_tremble wsX7_tremble 37 D vwCl (s_tys cI cQ cC cZ) s_N (s_C cI cQ cC ad) ad (s_St aS) s_NW [.ref (ad 0), .int a1, .int a2, .int a3, .int a4, .int a5, .int a6] σ r0 σ := by
  refine x_met (cc := cX7_tremble) (own := RX7) (maxL := 10) (ret := (some .int)) (by decide +kernel) rfl rfl (Nat.le_of_ble_eq_true rfl) hdis (s_StOk aS) s_NwOk (fun p e s m args below meth c B G hr => ?_)
  unfold fX7_tremble at hf
  refine x_sub (lv' := [(0, .ref (ad 0)), (1, .int a1), (2, .int a2), (3, .int a3), (4, .int a4), (5, .int a5), (6, .int a6)]) [0, 1, 2, 3, 4, 5, 6] rfl ?_
  refine x_aload_n B dX7_tremble_0 rfl 0 rfl ?_
  refine x_iload_n B dX7_tremble_1 rfl 1 rfl ?_
  obtain ⟨r2, e1, hf⟩ := x_ps hf
  refine x_callV (As := [.int a1]) (st := []) B G (mX7_isGesture (l := l) G.1.2.1  e1) (cwV 1 B.2.2.2.2.1 gX7_tremble_X7_isGesture rfl rfl rfl hdX7_isGesture (x_rm_ok (by omega) (by decide))) (by decide) s_c0 rfl rfl rfl (Nat.le_of_ble_eq_true rfl) ⟨Nat.zero_le _, Nat.zero_le _⟩ dX7_tremble_2 ?_
  refine x_if_eq (tgt := 29) B dX7_tremble_5 (by decide) (fun h3 => ?_) (fun h3 => ?_)
  · replace hf := x_it h3 hf
    refine x_ldc (v := (-1000001)) B iX7_tremble_0 dX7_tremble_29 ?_
    obtain rfl := x_retP hf
    exact x_iret B hr dX7_tremble_31
  · replace hf := x_if h3 hf
    refine x_aload_n B dX7_tremble_8 rfl 0 rfl ?_
    refine x_iload_n B dX7_tremble_9 rfl 2 rfl ?_
    refine x_iload_n B dX7_tremble_10 rfl 3 rfl ?_
    obtain ⟨r5, e4, hf⟩ := x_ps hf
    refine x_callV (As := [.int a2, .int a3]) (st := []) B G (mX7_isStretch (l := l) G.1.2.1  e4) (cwV 2 B.2.2.2.2.1 gX7_tremble_X7_isStretch rfl rfl rfl hdX7_isStretch (x_rm_ok (by omega) (by decide))) (by decide) s_c0 rfl rfl rfl (Nat.le_of_ble_eq_true rfl) ⟨Nat.zero_le _, Nat.zero_le _⟩ dX7_tremble_11 ?_
    refine x_if_eq (tgt := 29) B dX7_tremble_14 (by decide) (fun h6 => ?_) (fun h6 => ?_)
    · replace hf := x_it h6 hf
      refine x_ldc (v := (-1000001)) B iX7_tremble_0 dX7_tremble_29 ?_
      obtain rfl := x_retP hf
      exact x_iret B hr dX7_tremble_31
    · replace hf := x_if h6 hf
      refine x_iload B dX7_tremble_17 4 rfl ?_
      refine x_iconst (v := 0) B dX7_tremble_19 (by decide) ?_
      refine x_sipush (v := 9999) B dX7_tremble_20 (by decide) ?_
      obtain ⟨r8, e7, hf⟩ := x_ps hf
      refine x_callS (As := [.int a4, .int 0, .int 9999]) (st := []) B G (mX7_isWithin (l := l) G.1.2.1  e7) (va_cwS 3 B.2.2.2.2.1 gX7_tremble_X7_isWithin rfl rfl rfl hdX7_isWithin (x_rm_ok (by omega) (by decide))) rfl rfl (Nat.le_of_ble_eq_true rfl) ⟨Nat.zero_le _, Nat.zero_le _⟩ dX7_tremble_23 ?_
      refine x_if_ne (tgt := 32) B dX7_tremble_26 (by decide) (fun h9 => ?_) (fun h9 => ?_)
      · replace hf := x_if h9 hf
        refine x_iload B dX7_tremble_32 5 rfl ?_
        refine x_iconst (v := 0) B dX7_tremble_34 (by decide) ?_
        refine x_bipush (v := 10) B dX7_tremble_35 (by decide) ?_
        obtain ⟨r11, e10, hf⟩ := x_ps hf
        refine x_callS (As := [.int a5, .int 0, .int 10]) (st := []) B G (mX7_isWithin (l := l) G.1.2.1  e10) (va_cwS 3 B.2.2.2.2.1 gX7_tremble_X7_isWithin rfl rfl rfl hdX7_isWithin (x_rm_ok (by omega) (by decide))) rfl rfl (Nat.le_of_ble_eq_true rfl) ⟨Nat.zero_le _, Nat.zero_le _⟩ dX7_tremble_37 ?_
        refine x_if_eq (tgt := 53) B dX7_tremble_40 (by decide) (fun h12 => ?_) (fun h12 => ?_)
        · replace hf := x_it h12 hf
          refine x_ldc (v := (-1000001)) B iX7_tremble_0 dX7_tremble_53 ?_
          obtain rfl := x_retP hf
          exact x_iret B hr dX7_tremble_55
        · replace hf := x_if h12 hf
          refine x_iload B dX7_tremble_43 6 rfl ?_
          refine x_iconst (v := 0) B dX7_tremble_45 (by decide) ?_
          refine x_iconst (v := 1) B dX7_tremble_46 (by decide) ?_
          obtain ⟨r14, e13, hf⟩ := x_ps hf
          refine x_callS (As := [.int a6, .int 0, .int 1]) (st := []) B G (mX7_isWithin (l := l) G.1.2.1  e13) (va_cwS 3 B.2.2.2.2.1 gX7_tremble_X7_isWithin rfl rfl rfl hdX7_isWithin (x_rm_ok (by omega) (by decide))) rfl rfl (Nat.le_of_ble_eq_true rfl) ⟨Nat.zero_le _, Nat.zero_le _⟩ dX7_tremble_47 ?_
          refine x_if_ne (tgt := 56) B dX7_tremble_50 (by decide) (fun h15 => ?_) (fun h15 => ?_)
          · replace hf := x_if h15 hf
            refine x_aload_n B dX7_tremble_56 rfl 0 rfl ?_
            refine x_get (v := .ref (ad 32)) (kc := 0) (index := 26) B G.1 iX7_tremble_cX7 rfl (by decide) s_c0 2 (by decide) iX7_tremble_1 rfl dX7_tremble_57 ?_
            refine x_iload_n B dX7_tremble_60 rfl 1 rfl ?_
            refine x_iload_n B dX7_tremble_61 rfl 2 rfl ?_
            refine x_iload_n B dX7_tremble_62 rfl 3 rfl ?_
            refine x_iload B dX7_tremble_63 4 rfl ?_
            refine x_iload B dX7_tremble_65 5 rfl ?_
            obtain ⟨r17, e16, hf⟩ := x_ps hf
            refine x_callS (As := [.ref (ad 32), .int a1, .int a2, .int a3, .int a4, .int a5]) (st := []) B G (mX7_tenthsWithin_n (l := l) G.1.2.1 12 _ _ _ _ _ _ _ _ s_iC32 e16) (va_cwS 6 B.2.2.2.2.1 gX7_tremble_X7_tenthsWithin rfl rfl rfl hdX7_tenthsWithin (x_rm_ok (by omega) (by decide))) rfl rfl (Nat.le_of_ble_eq_true rfl) ⟨Nat.zero_le _, Nat.zero_le _⟩ dX7_tremble_67 ?_
            refine x_istore (lv' := [(7, .int r17), (0, .ref (ad 0)), (1, .int a1), (2, .int a2), (3, .int a3), (4, .int a4), (5, .int a5), (6, .int a6)]) B dX7_tremble_70 (by decide) rfl ?_
            refine x_iconst (v := 1) B dX7_tremble_72 (by decide) ?_
            refine x_istore (lv' := [(8, .int 1), (7, .int r17), (0, .ref (ad 0)), (1, .int a1), (2, .int a2), (3, .int a3), (4, .int a4), (5, .int a5), (6, .int a6)]) B dX7_tremble_73 (by decide) rfl ?_
            refine x_iload_n B dX7_tremble_75 rfl 4 rfl ?_
            refine x_istore (lv' := [(9, .int a2), (8, .int 1), (7, .int r17), (0, .ref (ad 0)), (1, .int a1), (2, .int a2), (3, .int a3), (4, .int a4), (5, .int a5), (6, .int a6)]) B dX7_tremble_76 (by decide) rfl ?_
            refine x_sub [6, 9, 2, 1, 0] rfl ?_
            exact kX7_tremble_78 B G hr hf
          · replace hf := x_it h15 hf
            refine x_ldc (v := (-1000001)) B iX7_tremble_0 dX7_tremble_53 ?_
            obtain rfl := x_retP hf
            exact x_iret B hr dX7_tremble_55
      · replace hf := x_it h9 hf
        refine x_ldc (v := (-1000001)) B iX7_tremble_0 dX7_tremble_29 ?_
        obtain rfl := x_retP hf
        exact x_iret B hr dX7_tremble_31
theorem iX7_image_0 : Cond.fieldLink RX7 26 "SignDuty" "city" "LSignDuty$City;" ∈ wsX7_image := by decide +kernel
theorem iX7_image_cX7 : ∀ w ∈ u_ws RX7 TX7 9, w ∈ wsX7_image := by decide +kernel
theorem iX7_image_2 : Cond.fieldLink RX7 211 "SignDuty$City" "stands" "Z" ∈ wsX7_image := by decide +kernel
theorem iX7_image_cX2 : ∀ w ∈ u_ws RX2 TX2 13, w ∈ wsX7_image := by decide +kernel
theorem iX7_image_4 : Cond.fieldLink RX7 33 "SignDuty" "images" "[LSignDuty$City;" ∈ wsX7_image := by decide +kernel
theorem iX7_image_5 : Cond.constant RX7 144 (-1000002) ∈ wsX7_image := by decide +kernel
theorem iX7_image_6 : Cond.constant RX7 70 (-1000001) ∈ wsX7_image := by decide +kernel
set_option maxRecDepth 100000 in
set_option maxHeartbeats 4000000 in
theorem mX7_image {σ : x_S} {a1 : Int32} (hdis : x_dis s_N ad) (hf : fX7_image a1 σ = some (r0, σ0)) : x_NI l yX7_image wsX7_image 2 D vwCl (s_tys cI cQ cC cZ) s_N (s_C cI cQ cC ad) ad (s_St aS) s_NW [.ref (ad 0), .int a1] σ r0 σ0 := by
  refine x_met (cc := cX7_image) (own := RX7) (maxL := 2) (ret := (some .int)) (by decide +kernel) rfl rfl (Nat.le_of_ble_eq_true rfl) hdis (s_StOk aS) s_NwOk (fun p e s m args below meth c B G hr => ?_)
  unfold fX7_image at hf
  refine x_sub (lv' := [(0, .ref (ad 0)), (1, .int a1)]) [0, 1] rfl ?_
  refine x_iload_n B dX7_image_0 rfl 1 rfl ?_
  refine x_iconst (v := 0) B dX7_image_1 (by decide) ?_
  refine x_iconst (v := 1) B dX7_image_2 (by decide) ?_
  obtain ⟨r2, e1, hf⟩ := x_ps hf
  refine x_callS (As := [.int a1, .int 0, .int 1]) (st := []) B G (mX7_isWithin (l := l) G.1.2.1  e1) (va_cwS 3 B.2.2.2.2.1 gX7_image_X7_isWithin rfl rfl rfl hdX7_isWithin (x_rm_ok (by omega) (by decide))) rfl rfl (Nat.le_of_ble_eq_true rfl) ⟨Nat.zero_le _, Nat.zero_le _⟩ dX7_image_3 ?_
  refine x_if_ne (tgt := 12) B dX7_image_6 (by decide) (fun h3 => ?_) (fun h3 => ?_)
  · replace hf := x_if h3 hf
    refine x_aload_n B dX7_image_12 rfl 0 rfl ?_
    refine x_get (v := .ref (ad 32)) (kc := 0) (index := 26) B G.1 iX7_image_cX7 rfl (by decide) s_c0 2 (by decide) iX7_image_0 rfl dX7_image_13 ?_
    refine x_get (v := .int (σ 32 0)) (kc := 32) (index := 211) B G.1 iX7_image_cX2 rfl (s_kC s_iC32) (s_cC s_iC32) 0 (by decide) iX7_image_2 rfl dX7_image_16 ?_
    refine x_if_ne (tgt := 25) B dX7_image_19 (by decide) (fun h4 => ?_) (fun h4 => ?_)
    · replace hf := x_if h4 hf
      refine x_aload_n B dX7_image_25 rfl 0 rfl ?_
      refine x_get (v := .ref (ad 15)) (kc := 0) (index := 33) B G.1 iX7_image_cX7 rfl (by decide) s_c0 4 (by decide) iX7_image_4 rfl dX7_image_26 ?_
      refine x_iload_n B dX7_image_29 rfl 1 rfl ?_
      obtain ⟨h5, hf⟩ := x_gs hf
      refine x_aald (f := fun j => ad (48 + 8 * j)) (kc := 15) (t0 := 2) B G.1 (by decide) s_c15 rfl rfl h5 dX7_image_30 ?_
      refine x_aload_n B dX7_image_31 rfl 0 rfl ?_
      refine x_get (v := .ref (ad 32)) (kc := 0) (index := 26) B G.1 iX7_image_cX7 rfl (by decide) s_c0 2 (by decide) iX7_image_0 rfl dX7_image_32 ?_
      obtain ⟨σ7, e6, hf⟩ := x_vs hf
      refine x_callVv (As := [.ref (ad 32)]) (st := []) B G (mX2_become (l := l) G.1.2.1 (s_iCim h5) s_iC32 e6) (cwV 1 B.2.2.2.2.1 gX7_image_X2_become rfl rfl rfl hdX2_become (x_rm_ok (by omega) (by decide))) (s_kC (s_iCim h5)) (s_cC (s_iCim h5)) rfl rfl rfl (Nat.le_of_ble_eq_true rfl) ⟨Nat.zero_le _, Nat.zero_le _⟩ dX7_image_35 ?_
      refine x_iconst (v := 1) B dX7_image_38 (by decide) ?_
      obtain ⟨rfl, rfl⟩ := x_retI hf
      exact x_iret B hr dX7_image_39
    · replace hf := x_it h4 hf
      refine x_ldc (v := (-1000002)) B iX7_image_5 dX7_image_22 ?_
      obtain ⟨rfl, rfl⟩ := x_retI hf
      exact x_iret B hr dX7_image_24
  · replace hf := x_it h3 hf
    refine x_ldc (v := (-1000001)) B iX7_image_6 dX7_image_9 ?_
    obtain ⟨rfl, rfl⟩ := x_retI hf
    exact x_iret B hr dX7_image_11
theorem iX7_restore_0 : Cond.fieldLink RX7 33 "SignDuty" "images" "[LSignDuty$City;" ∈ wsX7_restore := by decide +kernel
theorem iX7_restore_cX7 : ∀ w ∈ u_ws RX7 TX7 9, w ∈ wsX7_restore := by decide +kernel
theorem iX7_restore_2 : Cond.fieldLink RX7 211 "SignDuty$City" "stands" "Z" ∈ wsX7_restore := by decide +kernel
theorem iX7_restore_cX2 : ∀ w ∈ u_ws RX2 TX2 13, w ∈ wsX7_restore := by decide +kernel
theorem iX7_restore_4 : Cond.fieldLink RX7 26 "SignDuty" "city" "LSignDuty$City;" ∈ wsX7_restore := by decide +kernel
theorem iX7_restore_5 : Cond.fieldLink RX7 40 "SignDuty" "acts" "LSignDuty$Acts;" ∈ wsX7_restore := by decide +kernel
theorem iX7_restore_6 : Cond.constant RX7 144 (-1000002) ∈ wsX7_restore := by decide +kernel
theorem iX7_restore_7 : Cond.constant RX7 70 (-1000001) ∈ wsX7_restore := by decide +kernel
set_option maxRecDepth 100000 in
set_option maxHeartbeats 4000000 in
theorem mX7_restore {σ : x_S} {a1 : Int32} (hdis : x_dis s_N ad) (hf : fX7_restore a1 σ = some (r0, σ0)) : x_NI l yX7_restore wsX7_restore 2 D vwCl (s_tys cI cQ cC cZ) s_N (s_C cI cQ cC ad) ad (s_St aS) s_NW [.ref (ad 0), .int a1] σ r0 σ0 := by
  refine x_met (cc := cX7_restore) (own := RX7) (maxL := 2) (ret := (some .int)) (by decide +kernel) rfl rfl (Nat.le_of_ble_eq_true rfl) hdis (s_StOk aS) s_NwOk (fun p e s m args below meth c B G hr => ?_)
  unfold fX7_restore at hf
  refine x_sub (lv' := [(0, .ref (ad 0)), (1, .int a1)]) [0, 1] rfl ?_
  refine x_iload_n B dX7_restore_0 rfl 1 rfl ?_
  refine x_iconst (v := 0) B dX7_restore_1 (by decide) ?_
  refine x_iconst (v := 1) B dX7_restore_2 (by decide) ?_
  obtain ⟨r2, e1, hf⟩ := x_ps hf
  refine x_callS (As := [.int a1, .int 0, .int 1]) (st := []) B G (mX7_isWithin (l := l) G.1.2.1  e1) (va_cwS 3 B.2.2.2.2.1 gX7_restore_X7_isWithin rfl rfl rfl hdX7_isWithin (x_rm_ok (by omega) (by decide))) rfl rfl (Nat.le_of_ble_eq_true rfl) ⟨Nat.zero_le _, Nat.zero_le _⟩ dX7_restore_3 ?_
  refine x_if_ne (tgt := 12) B dX7_restore_6 (by decide) (fun h3 => ?_) (fun h3 => ?_)
  · replace hf := x_if h3 hf
    refine x_aload_n B dX7_restore_12 rfl 0 rfl ?_
    refine x_get (v := .ref (ad 15)) (kc := 0) (index := 33) B G.1 iX7_restore_cX7 rfl (by decide) s_c0 4 (by decide) iX7_restore_0 rfl dX7_restore_13 ?_
    refine x_iload_n B dX7_restore_16 rfl 1 rfl ?_
    obtain ⟨h4, hf⟩ := x_gs hf
    refine x_aald (f := fun j => ad (48 + 8 * j)) (kc := 15) (t0 := 2) B G.1 (by decide) s_c15 rfl rfl h4 dX7_restore_17 ?_
    refine x_get (v := .int (σ (48 + 8 * a1.toNatClampNeg) 0)) (kc := (48 + 8 * a1.toNatClampNeg)) (index := 211) B G.1 iX7_restore_cX2 rfl (s_kC (s_iCim h4)) (s_cC (s_iCim h4)) 0 (by decide) iX7_restore_2 rfl dX7_restore_18 ?_
    refine x_if_ne (tgt := 27) B dX7_restore_21 (by decide) (fun h5 => ?_) (fun h5 => ?_)
    · replace hf := x_if h5 hf
      refine x_aload_n B dX7_restore_27 rfl 0 rfl ?_
      refine x_get (v := .ref (ad 32)) (kc := 0) (index := 26) B G.1 iX7_restore_cX7 rfl (by decide) s_c0 2 (by decide) iX7_restore_4 rfl dX7_restore_28 ?_
      refine x_aload_n B dX7_restore_31 rfl 0 rfl ?_
      refine x_get (v := .ref (ad 15)) (kc := 0) (index := 33) B G.1 iX7_restore_cX7 rfl (by decide) s_c0 4 (by decide) iX7_restore_0 rfl dX7_restore_32 ?_
      refine x_iload_n B dX7_restore_35 rfl 1 rfl ?_
      obtain ⟨h6, hf⟩ := x_gs hf
      refine x_aald (f := fun j => ad (48 + 8 * j)) (kc := 15) (t0 := 2) B G.1 (by decide) s_c15 rfl rfl h6 dX7_restore_36 ?_
      obtain ⟨σ8, e7, hf⟩ := x_vs hf
      refine x_callVv (As := [.ref (ad (48 + 8 * a1.toNatClampNeg))]) (st := []) B G (mX2_become (l := l) G.1.2.1 s_iC32 (s_iCim h6) e7) (cwV 1 B.2.2.2.2.1 gX7_restore_X2_become rfl rfl rfl hdX2_become (x_rm_ok (by omega) (by decide))) (s_kC s_iC32) (s_cC s_iC32) rfl rfl rfl (Nat.le_of_ble_eq_true rfl) ⟨Nat.zero_le _, Nat.zero_le _⟩ dX7_restore_37 ?_
      refine x_aload_n B dX7_restore_40 rfl 0 rfl ?_
      refine x_get (v := .ref (ad 16)) (kc := 0) (index := 40) B G.1 iX7_restore_cX7 rfl (by decide) s_c0 5 (by decide) iX7_restore_5 rfl dX7_restore_41 ?_
      obtain ⟨σ10, e9, hf⟩ := x_vs hf
      refine x_callVv (As := []) (st := []) B G (mX0_forgetAll (l := l) G.1.2.1  e9) (cwV 0 B.2.2.2.2.1 gX7_restore_X0_forgetAll rfl rfl rfl hdX0_forgetAll (x_rm_ok (by omega) (by decide))) (by decide) s_c16 rfl rfl rfl (Nat.le_of_ble_eq_true rfl) ⟨Nat.zero_le _, Nat.zero_le _⟩ dX7_restore_44 ?_
      refine x_iconst (v := 1) B dX7_restore_47 (by decide) ?_
      obtain ⟨rfl, rfl⟩ := x_retI hf
      exact x_iret B hr dX7_restore_48
    · replace hf := x_it h5 hf
      refine x_ldc (v := (-1000002)) B iX7_restore_6 dX7_restore_24 ?_
      obtain ⟨rfl, rfl⟩ := x_retI hf
      exact x_iret B hr dX7_restore_26
  · replace hf := x_it h3 hf
    refine x_ldc (v := (-1000001)) B iX7_restore_7 dX7_restore_9 ?_
    obtain ⟨rfl, rfl⟩ := x_retI hf
    exact x_iret B hr dX7_restore_11
theorem iX7_kind_0 : Cond.constant RX7 70 (-1000001) ∈ wsX7_kind := by decide +kernel
theorem iX7_kind_1 : Cond.fieldLink RX7 26 "SignDuty" "city" "LSignDuty$City;" ∈ wsX7_kind := by decide +kernel
theorem iX7_kind_cX7 : ∀ w ∈ u_ws RX7 TX7 9, w ∈ wsX7_kind := by decide +kernel
theorem iX7_kind_3 : Cond.fieldLink RX7 225 "SignDuty$City" "kind" "[I" ∈ wsX7_kind := by decide +kernel
theorem iX7_kind_cX2 : ∀ w ∈ u_ws RX2 TX2 13, w ∈ wsX7_kind := by decide +kernel
set_option maxRecDepth 100000 in
set_option maxHeartbeats 4000000 in
theorem mX7_kind {σ : x_S} {a1 : Int32} (hdis : x_dis s_N ad) (hf : fX7_kind a1 σ = some r0) : x_NI l yX7_kind wsX7_kind 1 D vwCl (s_tys cI cQ cC cZ) s_N (s_C cI cQ cC ad) ad (s_St aS) s_NW [.ref (ad 0), .int a1] σ r0 σ := by
  refine x_met (cc := cX7_kind) (own := RX7) (maxL := 2) (ret := (some .int)) (by decide +kernel) rfl rfl (Nat.le_of_ble_eq_true rfl) hdis (s_StOk aS) s_NwOk (fun p e s m args below meth c B G hr => ?_)
  unfold fX7_kind at hf
  refine x_sub (lv' := [(0, .ref (ad 0)), (1, .int a1)]) [0, 1] rfl ?_
  refine x_aload_n B dX7_kind_0 rfl 0 rfl ?_
  refine x_iload_n B dX7_kind_1 rfl 1 rfl ?_
  obtain ⟨r2, e1, hf⟩ := x_ps hf
  refine x_callV (As := [.int a1]) (st := []) B G (mX7_isGesture (l := l) G.1.2.1  e1) (cwV 1 B.2.2.2.2.1 gX7_kind_X7_isGesture rfl rfl rfl hdX7_isGesture (x_rm_ok (by omega) (by decide))) (by decide) s_c0 rfl rfl rfl (Nat.le_of_ble_eq_true rfl) ⟨Nat.zero_le _, Nat.zero_le _⟩ dX7_kind_2 ?_
  refine x_if_eq (tgt := 20) B dX7_kind_5 (by decide) (fun h3 => ?_) (fun h3 => ?_)
  · replace hf := x_it h3 hf
    refine x_ldc (v := (-1000001)) B iX7_kind_0 dX7_kind_20 ?_
    obtain rfl := x_retP hf
    exact x_iret B hr dX7_kind_22
  · replace hf := x_if h3 hf
    refine x_aload_n B dX7_kind_8 rfl 0 rfl ?_
    refine x_get (v := .ref (ad 32)) (kc := 0) (index := 26) B G.1 iX7_kind_cX7 rfl (by decide) s_c0 2 (by decide) iX7_kind_1 rfl dX7_kind_9 ?_
    refine x_get (v := .ref (ad 35)) (kc := 32) (index := 225) B G.1 iX7_kind_cX2 rfl (s_kC s_iC32) (s_cC s_iC32) 8 (by decide) iX7_kind_3 rfl dX7_kind_12 ?_
    refine x_iload_n B dX7_kind_15 rfl 1 rfl ?_
    obtain ⟨h4, hf⟩ := x_gs hf
    refine x_iald (kc := 35) (t0 := 0) B G.1 (s_kC3 s_iC32) (s_cC3 s_iC32) rfl h4 dX7_kind_16 ?_
    refine x_goto (tgt := 22) B dX7_kind_17 (by decide) ?_
    obtain rfl := x_retP hf
    exact x_iret B hr dX7_kind_22
theorem iX7_as_0 : Cond.constant RX7 70 (-1000001) ∈ wsX7_as := by decide +kernel
theorem iX7_as_1 : Cond.fieldLink RX7 26 "SignDuty" "city" "LSignDuty$City;" ∈ wsX7_as := by decide +kernel
theorem iX7_as_cX7 : ∀ w ∈ u_ws RX7 TX7 9, w ∈ wsX7_as := by decide +kernel
theorem iX7_as_3 : Cond.fieldLink RX7 225 "SignDuty$City" "kind" "[I" ∈ wsX7_as := by decide +kernel
theorem iX7_as_cX2 : ∀ w ∈ u_ws RX2 TX2 13, w ∈ wsX7_as := by decide +kernel
set_option maxRecDepth 100000 in
set_option maxHeartbeats 4000000 in
theorem mX7_as {σ : x_S} {a1 : Int32} {a2 : Int32} (hdis : x_dis s_N ad) (hf : fX7_as a1 a2 σ = some (r0, σ0)) : x_NI l yX7_as wsX7_as 2 D vwCl (s_tys cI cQ cC cZ) s_N (s_C cI cQ cC ad) ad (s_St aS) s_NW [.ref (ad 0), .int a1, .int a2] σ r0 σ0 := by
  refine x_met (cc := cX7_as) (own := RX7) (maxL := 3) (ret := (some .int)) (by decide +kernel) rfl rfl (Nat.le_of_ble_eq_true rfl) hdis (s_StOk aS) s_NwOk (fun p e s m args below meth c B G hr => ?_)
  unfold fX7_as at hf
  refine x_sub (lv' := [(0, .ref (ad 0)), (1, .int a1), (2, .int a2)]) [0, 1, 2] rfl ?_
  refine x_aload_n B dX7_as_0 rfl 0 rfl ?_
  refine x_iload_n B dX7_as_1 rfl 1 rfl ?_
  obtain ⟨r2, e1, hf⟩ := x_ps hf
  refine x_callV (As := [.int a1]) (st := []) B G (mX7_isGesture (l := l) G.1.2.1  e1) (cwV 1 B.2.2.2.2.1 gX7_as_X7_isGesture rfl rfl rfl hdX7_isGesture (x_rm_ok (by omega) (by decide))) (by decide) s_c0 rfl rfl rfl (Nat.le_of_ble_eq_true rfl) ⟨Nat.zero_le _, Nat.zero_le _⟩ dX7_as_2 ?_
  refine x_if_eq (tgt := 17) B dX7_as_5 (by decide) (fun h3 => ?_) (fun h3 => ?_)
  · replace hf := x_it h3 hf
    refine x_ldc (v := (-1000001)) B iX7_as_0 dX7_as_17 ?_
    obtain ⟨rfl, rfl⟩ := x_retI hf
    exact x_iret B hr dX7_as_19
  · replace hf := x_if h3 hf
    refine x_iload_n B dX7_as_8 rfl 2 rfl ?_
    refine x_iconst (v := 0) B dX7_as_9 (by decide) ?_
    refine x_iconst (v := 5) B dX7_as_10 (by decide) ?_
    obtain ⟨r5, e4, hf⟩ := x_ps hf
    refine x_callS (As := [.int a2, .int 0, .int 5]) (st := []) B G (mX7_isWithin (l := l) G.1.2.1  e4) (va_cwS 3 B.2.2.2.2.1 gX7_as_X7_isWithin rfl rfl rfl hdX7_isWithin (x_rm_ok (by omega) (by decide))) rfl rfl (Nat.le_of_ble_eq_true rfl) ⟨Nat.zero_le _, Nat.zero_le _⟩ dX7_as_11 ?_
    refine x_if_ne (tgt := 20) B dX7_as_14 (by decide) (fun h6 => ?_) (fun h6 => ?_)
    · replace hf := x_if h6 hf
      refine x_aload_n B dX7_as_20 rfl 0 rfl ?_
      refine x_get (v := .ref (ad 32)) (kc := 0) (index := 26) B G.1 iX7_as_cX7 rfl (by decide) s_c0 2 (by decide) iX7_as_1 rfl dX7_as_21 ?_
      refine x_get (v := .ref (ad 35)) (kc := 32) (index := 225) B G.1 iX7_as_cX2 rfl (s_kC s_iC32) (s_cC s_iC32) 8 (by decide) iX7_as_3 rfl dX7_as_24 ?_
      refine x_iload_n B dX7_as_27 rfl 1 rfl ?_
      obtain ⟨h7, hf⟩ := x_gs hf
      refine x_iald (kc := 35) (t0 := 0) B G.1 (s_kC3 s_iC32) (s_cC3 s_iC32) rfl h7 dX7_as_28 ?_
      refine x_iload_n B dX7_as_29 rfl 2 rfl ?_
      obtain ⟨r9, e8, hf⟩ := x_ps hf
      refine x_callS (As := [.int (σ 35 a1.toNatClampNeg), .int a2]) (st := []) B G (mX3_isOneOf (l := l) G.1.2.1  e8) (va_cwS 2 B.2.2.2.2.1 gX7_as_X3_isOneOf rfl rfl rfl hdX3_isOneOf (x_rm_ok (by omega) (by decide))) rfl rfl (Nat.le_of_ble_eq_true rfl) ⟨Nat.zero_le _, Nat.zero_le _⟩ dX7_as_30 ?_
      refine x_if_eq (tgt := 44) B dX7_as_33 (by decide) (fun h10 => ?_) (fun h10 => ?_)
      · replace hf := x_it h10 hf
        refine x_aload_n B dX7_as_44 rfl 0 rfl ?_
        refine x_iconst (v := 3) B dX7_as_45 (by decide) ?_
        obtain ⟨r12, σ13, e11, hf⟩ := x_bs hf
        refine x_callV (As := [.int 3]) (st := []) B G (mX7_found (l := l) G.1.2.1  e11) (cwV 1 B.2.2.2.2.1 gX7_as_X7_found rfl rfl rfl hdX7_found (x_rm_ok (by omega) (by decide))) (by decide) s_c0 rfl rfl rfl (Nat.le_of_ble_eq_true rfl) ⟨Nat.zero_le _, Nat.zero_le _⟩ dX7_as_46 ?_
        obtain ⟨rfl, rfl⟩ := x_retI hf
        exact x_iret B hr dX7_as_49
      · replace hf := x_if h10 hf
        refine x_aload_n B dX7_as_36 rfl 0 rfl ?_
        refine x_iload_n B dX7_as_37 rfl 1 rfl ?_
        obtain ⟨r15, σ16, e14, hf⟩ := x_bs hf
        refine x_callV (As := [.int a1]) (st := []) B G (mX7_foundNothing (l := l) G.1.2.1  e14) (cwV 1 B.2.2.2.2.1 gX7_as_X7_foundNothing rfl rfl rfl hdX7_foundNothing (x_rm_ok (by omega) (by decide))) (by decide) s_c0 rfl rfl rfl (Nat.le_of_ble_eq_true rfl) ⟨Nat.zero_le _, Nat.zero_le _⟩ dX7_as_38 ?_
        refine x_goto (tgt := 49) B dX7_as_41 (by decide) ?_
        obtain ⟨rfl, rfl⟩ := x_retI hf
        exact x_iret B hr dX7_as_49
    · replace hf := x_it h6 hf
      refine x_ldc (v := (-1000001)) B iX7_as_0 dX7_as_17 ?_
      obtain ⟨rfl, rfl⟩ := x_retI hf
      exact x_iret B hr dX7_as_19
theorem iX7_ask_0 : Cond.constant RX7 70 (-1000001) ∈ wsX7_ask := by decide +kernel
theorem iX7_ask_1 : Cond.fieldLink RX7 54 "SignDuty" "asks" "LSignDuty$Asks;" ∈ wsX7_ask := by decide +kernel
theorem iX7_ask_cX7 : ∀ w ∈ u_ws RX7 TX7 9, w ∈ wsX7_ask := by decide +kernel
theorem iX7_ask_3 : Cond.fieldLink RX7 26 "SignDuty" "city" "LSignDuty$City;" ∈ wsX7_ask := by decide +kernel
set_option maxRecDepth 100000 in
set_option maxHeartbeats 4000000 in
theorem mX7_ask {σ : x_S} {a1 : Int32} {a2 : Int32} (hdis : x_dis s_N ad) (hf : fX7_ask a1 a2 σ = some (r0, σ0)) : x_NI l yX7_ask wsX7_ask 52 D vwCl (s_tys cI cQ cC cZ) s_N (s_C cI cQ cC ad) ad (s_St aS) s_NW [.ref (ad 0), .int a1, .int a2] σ r0 σ0 := by
  refine x_met (cc := cX7_ask) (own := RX7) (maxL := 3) (ret := (some .int)) (by decide +kernel) rfl rfl (Nat.le_of_ble_eq_true rfl) hdis (s_StOk aS) s_NwOk (fun p e s m args below meth c B G hr => ?_)
  unfold fX7_ask at hf
  refine x_sub (lv' := [(0, .ref (ad 0)), (1, .int a1), (2, .int a2)]) [0, 1, 2] rfl ?_
  refine x_aload_n B dX7_ask_0 rfl 0 rfl ?_
  refine x_iload_n B dX7_ask_1 rfl 1 rfl ?_
  obtain ⟨r2, e1, hf⟩ := x_ps hf
  refine x_callV (As := [.int a1]) (st := []) B G (mX7_isGesture (l := l) G.1.2.1  e1) (cwV 1 B.2.2.2.2.1 gX7_ask_X7_isGesture rfl rfl rfl hdX7_isGesture (x_rm_ok (by omega) (by decide))) (by decide) s_c0 rfl rfl rfl (Nat.le_of_ble_eq_true rfl) ⟨Nat.zero_le _, Nat.zero_le _⟩ dX7_ask_2 ?_
  refine x_if_eq (tgt := 17) B dX7_ask_5 (by decide) (fun h3 => ?_) (fun h3 => ?_)
  · replace hf := x_it h3 hf
    refine x_ldc (v := (-1000001)) B iX7_ask_0 dX7_ask_17 ?_
    obtain ⟨rfl, rfl⟩ := x_retI hf
    exact x_iret B hr dX7_ask_19
  · replace hf := x_if h3 hf
    refine x_iload_n B dX7_ask_8 rfl 2 rfl ?_
    refine x_iconst (v := 0) B dX7_ask_9 (by decide) ?_
    refine x_iconst (v := 1) B dX7_ask_10 (by decide) ?_
    obtain ⟨r5, e4, hf⟩ := x_ps hf
    refine x_callS (As := [.int a2, .int 0, .int 1]) (st := []) B G (mX7_isWithin (l := l) G.1.2.1  e4) (va_cwS 3 B.2.2.2.2.1 gX7_ask_X7_isWithin rfl rfl rfl hdX7_isWithin (x_rm_ok (by omega) (by decide))) rfl rfl (Nat.le_of_ble_eq_true rfl) ⟨Nat.zero_le _, Nat.zero_le _⟩ dX7_ask_11 ?_
    refine x_if_ne (tgt := 20) B dX7_ask_14 (by decide) (fun h6 => ?_) (fun h6 => ?_)
    · replace hf := x_if h6 hf
      refine x_aload_n B dX7_ask_20 rfl 0 rfl ?_
      refine x_get (v := .ref (ad 30)) (kc := 0) (index := 54) B G.1 iX7_ask_cX7 rfl (by decide) s_c0 7 (by decide) iX7_ask_1 rfl dX7_ask_21 ?_
      refine x_aload_n B dX7_ask_24 rfl 0 rfl ?_
      refine x_get (v := .ref (ad 32)) (kc := 0) (index := 26) B G.1 iX7_ask_cX7 rfl (by decide) s_c0 2 (by decide) iX7_ask_3 rfl dX7_ask_25 ?_
      refine x_iload_n B dX7_ask_28 rfl 1 rfl ?_
      refine x_iload_n B dX7_ask_29 rfl 2 rfl ?_
      obtain ⟨r8, σ9, e7, hf⟩ := x_bs hf
      refine x_callV (As := [.ref (ad 32), .int a1, .int a2]) (st := []) B G (mX1_answer (l := l) G.1.2.1 s_iC32 e7) (cwV 3 B.2.2.2.2.1 gX7_ask_X1_answer rfl rfl rfl hdX1_answer (x_rm_ok (by omega) (by decide))) (by decide) s_c30 rfl rfl rfl (Nat.le_of_ble_eq_true rfl) ⟨Nat.zero_le _, Nat.zero_le _⟩ dX7_ask_30 ?_
      obtain ⟨rfl, rfl⟩ := x_retI hf
      exact x_iret B hr dX7_ask_33
    · replace hf := x_it h6 hf
      refine x_ldc (v := (-1000001)) B iX7_ask_0 dX7_ask_17 ?_
      obtain ⟨rfl, rfl⟩ := x_retI hf
      exact x_iret B hr dX7_ask_19
theorem iX7_trace_0 : Cond.fieldLink RX7 54 "SignDuty" "asks" "LSignDuty$Asks;" ∈ wsX7_trace := by decide +kernel
theorem iX7_trace_cX7 : ∀ w ∈ u_ws RX7 TX7 9, w ∈ wsX7_trace := by decide +kernel
set_option maxRecDepth 100000 in
set_option maxHeartbeats 4000000 in
theorem mX7_trace {σ : x_S} {a1 : Int32} (hdis : x_dis s_N ad) (hf : fX7_trace a1 σ = some r0) : x_NI l yX7_trace wsX7_trace 1 D vwCl (s_tys cI cQ cC cZ) s_N (s_C cI cQ cC ad) ad (s_St aS) s_NW [.ref (ad 0), .int a1] σ r0 σ := by
  refine x_met (cc := cX7_trace) (own := RX7) (maxL := 2) (ret := (some .int)) (by decide +kernel) rfl rfl (Nat.le_of_ble_eq_true rfl) hdis (s_StOk aS) s_NwOk (fun p e s m args below meth c B G hr => ?_)
  unfold fX7_trace at hf
  refine x_sub (lv' := [(0, .ref (ad 0)), (1, .int a1)]) [0, 1] rfl ?_
  refine x_aload_n B dX7_trace_0 rfl 0 rfl ?_
  refine x_get (v := .ref (ad 30)) (kc := 0) (index := 54) B G.1 iX7_trace_cX7 rfl (by decide) s_c0 7 (by decide) iX7_trace_0 rfl dX7_trace_1 ?_
  refine x_iload_n B dX7_trace_4 rfl 1 rfl ?_
  obtain ⟨r2, e1, hf⟩ := x_ps hf
  refine x_callV (As := [.int a1]) (st := []) B G (mX1_numberLeft (l := l) G.1.2.1  e1) (cwV 1 B.2.2.2.2.1 gX7_trace_X1_numberLeft rfl rfl rfl hdX1_numberLeft (x_rm_ok (by omega) (by decide))) (by decide) s_c30 rfl rfl rfl (Nat.le_of_ble_eq_true rfl) ⟨Nat.zero_le _, Nat.zero_le _⟩ dX7_trace_5 ?_
  obtain rfl := x_retP hf
  exact x_iret B hr dX7_trace_8
theorem iJ6_bitCount_0f7a4_0 : Cond.constant RJ6 265 1431655765 ∈ wsJ6_bitCount_0f7a4 := by decide +kernel
theorem iJ6_bitCount_0f7a4_1 : Cond.constant RJ6 266 858993459 ∈ wsJ6_bitCount_0f7a4 := by decide +kernel
theorem iJ6_bitCount_0f7a4_2 : Cond.constant RJ6 267 252645135 ∈ wsJ6_bitCount_0f7a4 := by decide +kernel
set_option maxRecDepth 100000 in
set_option maxHeartbeats 4000000 in
theorem mJ6_bitCount_0f7a4 {σ : x_S} {a0 : Int32} (hdis : x_dis s_N ad) (hf : fJ6_bitCount_0f7a4 a0 σ = some r0) : x_NI l yJ6_bitCount_0f7a4 wsJ6_bitCount_0f7a4 0 D vwCl (s_tys cI cQ cC cZ) s_N (s_C cI cQ cC ad) ad (s_St aS) s_NW [.int a0] σ r0 σ := by
  refine x_met (cc := cJ6_bitCount_0f7a4) (own := RJ6) (maxL := 1) (ret := (some .int)) (by decide +kernel) rfl rfl (Nat.le_of_ble_eq_true rfl) hdis (s_StOk aS) s_NwOk (fun p e s m args below meth c B G hr => ?_)
  unfold fJ6_bitCount_0f7a4 at hf
  refine x_sub (lv' := [(0, .int a0)]) [0] rfl ?_
  refine x_iload_n B dJ6_bitCount_0f7a4_0 rfl 0 rfl ?_
  refine x_iload_n B dJ6_bitCount_0f7a4_1 rfl 0 rfl ?_
  refine x_iconst (v := 1) B dJ6_bitCount_0f7a4_2 (by decide) ?_
  refine x_iushr B dJ6_bitCount_0f7a4_3 ?_
  refine x_ldcw (v := 1431655765) B iJ6_bitCount_0f7a4_0 dJ6_bitCount_0f7a4_4 ?_
  refine x_iand B dJ6_bitCount_0f7a4_7 ?_
  refine x_isub B dJ6_bitCount_0f7a4_8 ?_
  refine x_istore_n (lv' := [(0, .int (a0 - (((a0.toUInt32 >>> ((1 : Int32).toUInt32 &&& Int32.toUInt32 31)).toInt32) &&& 1431655765)))]) B dJ6_bitCount_0f7a4_9 rfl (by decide) rfl ?_
  refine x_iload_n B dJ6_bitCount_0f7a4_10 rfl 0 rfl ?_
  refine x_ldcw (v := 858993459) B iJ6_bitCount_0f7a4_1 dJ6_bitCount_0f7a4_11 ?_
  refine x_iand B dJ6_bitCount_0f7a4_14 ?_
  refine x_iload_n B dJ6_bitCount_0f7a4_15 rfl 0 rfl ?_
  refine x_iconst (v := 2) B dJ6_bitCount_0f7a4_16 (by decide) ?_
  refine x_iushr B dJ6_bitCount_0f7a4_17 ?_
  refine x_ldcw (v := 858993459) B iJ6_bitCount_0f7a4_1 dJ6_bitCount_0f7a4_18 ?_
  refine x_iand B dJ6_bitCount_0f7a4_21 ?_
  refine x_iadd B dJ6_bitCount_0f7a4_22 ?_
  refine x_istore_n (lv' := [(0, .int (((a0 - (((a0.toUInt32 >>> ((1 : Int32).toUInt32 &&& Int32.toUInt32 31)).toInt32) &&& 1431655765)) &&& 858993459) + ((((a0 - (((a0.toUInt32 >>> ((1 : Int32).toUInt32 &&& Int32.toUInt32 31)).toInt32) &&& 1431655765)).toUInt32 >>> ((2 : Int32).toUInt32 &&& Int32.toUInt32 31)).toInt32) &&& 858993459)))]) B dJ6_bitCount_0f7a4_23 rfl (by decide) rfl ?_
  refine x_iload_n B dJ6_bitCount_0f7a4_24 rfl 0 rfl ?_
  refine x_iload_n B dJ6_bitCount_0f7a4_25 rfl 0 rfl ?_
  refine x_iconst (v := 4) B dJ6_bitCount_0f7a4_26 (by decide) ?_
  refine x_iushr B dJ6_bitCount_0f7a4_27 ?_
  refine x_iadd B dJ6_bitCount_0f7a4_28 ?_
  refine x_ldcw (v := 252645135) B iJ6_bitCount_0f7a4_2 dJ6_bitCount_0f7a4_29 ?_
  refine x_iand B dJ6_bitCount_0f7a4_32 ?_
  refine x_istore_n (lv' := [(0, .int (((((a0 - (((a0.toUInt32 >>> ((1 : Int32).toUInt32 &&& Int32.toUInt32 31)).toInt32) &&& 1431655765)) &&& 858993459) + ((((a0 - (((a0.toUInt32 >>> ((1 : Int32).toUInt32 &&& Int32.toUInt32 31)).toInt32) &&& 1431655765)).toUInt32 >>> ((2 : Int32).toUInt32 &&& Int32.toUInt32 31)).toInt32) &&& 858993459)) + (((((a0 - (((a0.toUInt32 >>> ((1 : Int32).toUInt32 &&& Int32.toUInt32 31)).toInt32) &&& 1431655765)) &&& 858993459) + ((((a0 - (((a0.toUInt32 >>> ((1 : Int32).toUInt32 &&& Int32.toUInt32 31)).toInt32) &&& 1431655765)).toUInt32 >>> ((2 : Int32).toUInt32 &&& Int32.toUInt32 31)).toInt32) &&& 858993459)).toUInt32 >>> ((4 : Int32).toUInt32 &&& Int32.toUInt32 31)).toInt32)) &&& 252645135))]) B dJ6_bitCount_0f7a4_33 rfl (by decide) rfl ?_
  refine x_iload_n B dJ6_bitCount_0f7a4_34 rfl 0 rfl ?_
  refine x_iload_n B dJ6_bitCount_0f7a4_35 rfl 0 rfl ?_
  refine x_bipush (v := 8) B dJ6_bitCount_0f7a4_36 (by decide) ?_
  refine x_iushr B dJ6_bitCount_0f7a4_38 ?_
  refine x_iadd B dJ6_bitCount_0f7a4_39 ?_
  refine x_istore_n (lv' := [(0, .int ((((((a0 - (((a0.toUInt32 >>> ((1 : Int32).toUInt32 &&& Int32.toUInt32 31)).toInt32) &&& 1431655765)) &&& 858993459) + ((((a0 - (((a0.toUInt32 >>> ((1 : Int32).toUInt32 &&& Int32.toUInt32 31)).toInt32) &&& 1431655765)).toUInt32 >>> ((2 : Int32).toUInt32 &&& Int32.toUInt32 31)).toInt32) &&& 858993459)) + (((((a0 - (((a0.toUInt32 >>> ((1 : Int32).toUInt32 &&& Int32.toUInt32 31)).toInt32) &&& 1431655765)) &&& 858993459) + ((((a0 - (((a0.toUInt32 >>> ((1 : Int32).toUInt32 &&& Int32.toUInt32 31)).toInt32) &&& 1431655765)).toUInt32 >>> ((2 : Int32).toUInt32 &&& Int32.toUInt32 31)).toInt32) &&& 858993459)).toUInt32 >>> ((4 : Int32).toUInt32 &&& Int32.toUInt32 31)).toInt32)) &&& 252645135) + (((((((a0 - (((a0.toUInt32 >>> ((1 : Int32).toUInt32 &&& Int32.toUInt32 31)).toInt32) &&& 1431655765)) &&& 858993459) + ((((a0 - (((a0.toUInt32 >>> ((1 : Int32).toUInt32 &&& Int32.toUInt32 31)).toInt32) &&& 1431655765)).toUInt32 >>> ((2 : Int32).toUInt32 &&& Int32.toUInt32 31)).toInt32) &&& 858993459)) + (((((a0 - (((a0.toUInt32 >>> ((1 : Int32).toUInt32 &&& Int32.toUInt32 31)).toInt32) &&& 1431655765)) &&& 858993459) + ((((a0 - (((a0.toUInt32 >>> ((1 : Int32).toUInt32 &&& Int32.toUInt32 31)).toInt32) &&& 1431655765)).toUInt32 >>> ((2 : Int32).toUInt32 &&& Int32.toUInt32 31)).toInt32) &&& 858993459)).toUInt32 >>> ((4 : Int32).toUInt32 &&& Int32.toUInt32 31)).toInt32)) &&& 252645135).toUInt32 >>> ((8 : Int32).toUInt32 &&& Int32.toUInt32 31)).toInt32)))]) B dJ6_bitCount_0f7a4_40 rfl (by decide) rfl ?_
  refine x_iload_n B dJ6_bitCount_0f7a4_41 rfl 0 rfl ?_
  refine x_iload_n B dJ6_bitCount_0f7a4_42 rfl 0 rfl ?_
  refine x_bipush (v := 16) B dJ6_bitCount_0f7a4_43 (by decide) ?_
  refine x_iushr B dJ6_bitCount_0f7a4_45 ?_
  refine x_iadd B dJ6_bitCount_0f7a4_46 ?_
  refine x_istore_n (lv' := [(0, .int (((((((a0 - (((a0.toUInt32 >>> ((1 : Int32).toUInt32 &&& Int32.toUInt32 31)).toInt32) &&& 1431655765)) &&& 858993459) + ((((a0 - (((a0.toUInt32 >>> ((1 : Int32).toUInt32 &&& Int32.toUInt32 31)).toInt32) &&& 1431655765)).toUInt32 >>> ((2 : Int32).toUInt32 &&& Int32.toUInt32 31)).toInt32) &&& 858993459)) + (((((a0 - (((a0.toUInt32 >>> ((1 : Int32).toUInt32 &&& Int32.toUInt32 31)).toInt32) &&& 1431655765)) &&& 858993459) + ((((a0 - (((a0.toUInt32 >>> ((1 : Int32).toUInt32 &&& Int32.toUInt32 31)).toInt32) &&& 1431655765)).toUInt32 >>> ((2 : Int32).toUInt32 &&& Int32.toUInt32 31)).toInt32) &&& 858993459)).toUInt32 >>> ((4 : Int32).toUInt32 &&& Int32.toUInt32 31)).toInt32)) &&& 252645135) + (((((((a0 - (((a0.toUInt32 >>> ((1 : Int32).toUInt32 &&& Int32.toUInt32 31)).toInt32) &&& 1431655765)) &&& 858993459) + ((((a0 - (((a0.toUInt32 >>> ((1 : Int32).toUInt32 &&& Int32.toUInt32 31)).toInt32) &&& 1431655765)).toUInt32 >>> ((2 : Int32).toUInt32 &&& Int32.toUInt32 31)).toInt32) &&& 858993459)) + (((((a0 - (((a0.toUInt32 >>> ((1 : Int32).toUInt32 &&& Int32.toUInt32 31)).toInt32) &&& 1431655765)) &&& 858993459) + ((((a0 - (((a0.toUInt32 >>> ((1 : Int32).toUInt32 &&& Int32.toUInt32 31)).toInt32) &&& 1431655765)).toUInt32 >>> ((2 : Int32).toUInt32 &&& Int32.toUInt32 31)).toInt32) &&& 858993459)).toUInt32 >>> ((4 : Int32).toUInt32 &&& Int32.toUInt32 31)).toInt32)) &&& 252645135).toUInt32 >>> ((8 : Int32).toUInt32 &&& Int32.toUInt32 31)).toInt32)) + ((((((((a0 - (((a0.toUInt32 >>> ((1 : Int32).toUInt32 &&& Int32.toUInt32 31)).toInt32) &&& 1431655765)) &&& 858993459) + ((((a0 - (((a0.toUInt32 >>> ((1 : Int32).toUInt32 &&& Int32.toUInt32 31)).toInt32) &&& 1431655765)).toUInt32 >>> ((2 : Int32).toUInt32 &&& Int32.toUInt32 31)).toInt32) &&& 858993459)) + (((((a0 - (((a0.toUInt32 >>> ((1 : Int32).toUInt32 &&& Int32.toUInt32 31)).toInt32) &&& 1431655765)) &&& 858993459) + ((((a0 - (((a0.toUInt32 >>> ((1 : Int32).toUInt32 &&& Int32.toUInt32 31)).toInt32) &&& 1431655765)).toUInt32 >>> ((2 : Int32).toUInt32 &&& Int32.toUInt32 31)).toInt32) &&& 858993459)).toUInt32 >>> ((4 : Int32).toUInt32 &&& Int32.toUInt32 31)).toInt32)) &&& 252645135) + (((((((a0 - (((a0.toUInt32 >>> ((1 : Int32).toUInt32 &&& Int32.toUInt32 31)).toInt32) &&& 1431655765)) &&& 858993459) + ((((a0 - (((a0.toUInt32 >>> ((1 : Int32).toUInt32 &&& Int32.toUInt32 31)).toInt32) &&& 1431655765)).toUInt32 >>> ((2 : Int32).toUInt32 &&& Int32.toUInt32 31)).toInt32) &&& 858993459)) + (((((a0 - (((a0.toUInt32 >>> ((1 : Int32).toUInt32 &&& Int32.toUInt32 31)).toInt32) &&& 1431655765)) &&& 858993459) + ((((a0 - (((a0.toUInt32 >>> ((1 : Int32).toUInt32 &&& Int32.toUInt32 31)).toInt32) &&& 1431655765)).toUInt32 >>> ((2 : Int32).toUInt32 &&& Int32.toUInt32 31)).toInt32) &&& 858993459)).toUInt32 >>> ((4 : Int32).toUInt32 &&& Int32.toUInt32 31)).toInt32)) &&& 252645135).toUInt32 >>> ((8 : Int32).toUInt32 &&& Int32.toUInt32 31)).toInt32)).toUInt32 >>> ((16 : Int32).toUInt32 &&& Int32.toUInt32 31)).toInt32)))]) B dJ6_bitCount_0f7a4_47 rfl (by decide) rfl ?_
  refine x_iload_n B dJ6_bitCount_0f7a4_48 rfl 0 rfl ?_
  refine x_bipush (v := 63) B dJ6_bitCount_0f7a4_49 (by decide) ?_
  refine x_iand B dJ6_bitCount_0f7a4_51 ?_
  obtain rfl := x_retP hf
  exact x_iret B hr dJ6_bitCount_0f7a4_52
theorem iX7_count_0 : Cond.fieldLink RX7 10 "SignDuty" "rows" "LSignDuty$Rows;" ∈ wsX7_count := by decide +kernel
theorem iX7_count_cX7 : ∀ w ∈ u_ws RX7 TX7 9, w ∈ wsX7_count := by decide +kernel
theorem iX7_count_2 : Cond.fieldLink RX7 26 "SignDuty" "city" "LSignDuty$City;" ∈ wsX7_count := by decide +kernel
theorem iX7_count_3 : Cond.fieldLink RX7 238 "SignDuty$City" "streets" "I" ∈ wsX7_count := by decide +kernel
theorem iX7_count_cX2 : ∀ w ∈ u_ws RX2 TX2 13, w ∈ wsX7_count := by decide +kernel
theorem iX7_count_5 : Cond.fieldLink RX7 129 "SignDuty$City" "gestures" "I" ∈ wsX7_count := by decide +kernel
theorem iX7_count_6 : Cond.fieldLink RX7 149 "SignDuty$City" "paid" "I" ∈ wsX7_count := by decide +kernel
theorem iX7_count_7 : Cond.fieldLink RX7 272 "SignDuty$City" "rate" "I" ∈ wsX7_count := by decide +kernel
theorem iX7_count_8 : Cond.fieldLink RX7 173 "SignDuty$City" "known" "I" ∈ wsX7_count := by decide +kernel
theorem iX7_count_9 : Cond.fieldLink RX7 40 "SignDuty" "acts" "LSignDuty$Acts;" ∈ wsX7_count := by decide +kernel
theorem iX7_count_10 : Cond.fieldLink RX7 176 "SignDuty$Acts" "kept" "I" ∈ wsX7_count := by decide +kernel
theorem iX7_count_cX0 : ∀ w ∈ u_ws RX0 TX0 5, w ∈ wsX7_count := by decide +kernel
theorem iX7_count_12 : Cond.fieldLink RX7 19 "SignDuty" "reader" "LSignDuty$Reader;" ∈ wsX7_count := by decide +kernel
theorem iX7_count_13 : Cond.fieldLink RX7 280 "SignDuty$Reader" "length" "I" ∈ wsX7_count := by decide +kernel
theorem iX7_count_cX4 : ∀ w ∈ u_ws RX4 TX4 6, w ∈ wsX7_count := by decide +kernel
theorem iX7_count_15 : Cond.constant RX7 70 (-1000001) ∈ wsX7_count := by decide +kernel
set_option maxRecDepth 100000 in
set_option maxHeartbeats 4000000 in
theorem mX7_count {σ : x_S} {a1 : Int32} (hdis : x_dis s_N ad) (hf : fX7_count a1 σ = some r0) : x_NI l yX7_count wsX7_count 2 D vwCl (s_tys cI cQ cC cZ) s_N (s_C cI cQ cC ad) ad (s_St aS) s_NW [.ref (ad 0), .int a1] σ r0 σ := by
  refine x_met (cc := cX7_count) (own := RX7) (maxL := 2) (ret := (some .int)) (by decide +kernel) rfl rfl (Nat.le_of_ble_eq_true rfl) hdis (s_StOk aS) s_NwOk (fun p e s m args below meth c B G hr => ?_)
  unfold fX7_count at hf
  refine x_sub (lv' := [(0, .ref (ad 0)), (1, .int a1)]) [0, 1] rfl ?_
  refine x_iload_n B dX7_count_0 rfl 1 rfl ?_
  by_cases h1 : a1 = 0
  · replace hf := x_it h1 hf
    refine x_tableIn (tgt := 48) (off := 47) B dX7_count_1 (by rw [h1]; decide) (by rw [h1]; decide) (by rw [h1]; rfl) (by decide) ?_
    refine x_aload_n B dX7_count_48 rfl 0 rfl ?_
    refine x_get (v := .ref (ad 1)) (kc := 0) (index := 10) B G.1 iX7_count_cX7 rfl (by decide) s_c0 0 (by decide) iX7_count_0 rfl dX7_count_49 ?_
    obtain ⟨r3, e2, hf⟩ := x_ps hf
    refine x_callV (As := []) (st := []) B G (mX5_howMany (l := l) G.1.2.1  e2) (cwV 0 B.2.2.2.2.1 gX7_count_X5_howMany rfl rfl rfl hdX5_howMany (x_rm_ok (by omega) (by decide))) (by decide) s_c1 rfl rfl rfl (Nat.le_of_ble_eq_true rfl) ⟨Nat.zero_le _, Nat.zero_le _⟩ dX7_count_52 ?_
    obtain rfl := x_retP hf
    exact x_iret B hr dX7_count_55
  · replace hf := x_if h1 hf
    by_cases h4 : a1 = 1
    · replace hf := x_it h4 hf
      refine x_tableIn (tgt := 56) (off := 55) B dX7_count_1 (by rw [h4]; decide) (by rw [h4]; decide) (by rw [h4]; rfl) (by decide) ?_
      refine x_aload_n B dX7_count_56 rfl 0 rfl ?_
      refine x_get (v := .ref (ad 32)) (kc := 0) (index := 26) B G.1 iX7_count_cX7 rfl (by decide) s_c0 2 (by decide) iX7_count_2 rfl dX7_count_57 ?_
      refine x_get (v := .int (σ 32 3)) (kc := 32) (index := 238) B G.1 iX7_count_cX2 rfl (s_kC s_iC32) (s_cC s_iC32) 3 (by decide) iX7_count_3 rfl dX7_count_60 ?_
      obtain rfl := x_retP hf
      exact x_iret B hr dX7_count_63
    · replace hf := x_if h4 hf
      by_cases h5 : a1 = 2
      · replace hf := x_it h5 hf
        refine x_tableIn (tgt := 64) (off := 63) B dX7_count_1 (by rw [h5]; decide) (by rw [h5]; decide) (by rw [h5]; rfl) (by decide) ?_
        refine x_aload_n B dX7_count_64 rfl 0 rfl ?_
        refine x_get (v := .ref (ad 32)) (kc := 0) (index := 26) B G.1 iX7_count_cX7 rfl (by decide) s_c0 2 (by decide) iX7_count_2 rfl dX7_count_65 ?_
        refine x_get (v := .int (σ 32 5)) (kc := 32) (index := 129) B G.1 iX7_count_cX2 rfl (s_kC s_iC32) (s_cC s_iC32) 5 (by decide) iX7_count_5 rfl dX7_count_68 ?_
        obtain rfl := x_retP hf
        exact x_iret B hr dX7_count_71
      · replace hf := x_if h5 hf
        by_cases h6 : a1 = 3
        · replace hf := x_it h6 hf
          refine x_tableIn (tgt := 72) (off := 71) B dX7_count_1 (by rw [h6]; decide) (by rw [h6]; decide) (by rw [h6]; rfl) (by decide) ?_
          refine x_aload_n B dX7_count_72 rfl 0 rfl ?_
          refine x_get (v := .ref (ad 32)) (kc := 0) (index := 26) B G.1 iX7_count_cX7 rfl (by decide) s_c0 2 (by decide) iX7_count_2 rfl dX7_count_73 ?_
          refine x_get (v := .int (σ 32 2)) (kc := 32) (index := 149) B G.1 iX7_count_cX2 rfl (s_kC s_iC32) (s_cC s_iC32) 2 (by decide) iX7_count_6 rfl dX7_count_76 ?_
          obtain rfl := x_retP hf
          exact x_iret B hr dX7_count_79
        · replace hf := x_if h6 hf
          by_cases h7 : a1 = 4
          · replace hf := x_it h7 hf
            refine x_tableIn (tgt := 80) (off := 79) B dX7_count_1 (by rw [h7]; decide) (by rw [h7]; decide) (by rw [h7]; rfl) (by decide) ?_
            refine x_aload_n B dX7_count_80 rfl 0 rfl ?_
            refine x_get (v := .ref (ad 32)) (kc := 0) (index := 26) B G.1 iX7_count_cX7 rfl (by decide) s_c0 2 (by decide) iX7_count_2 rfl dX7_count_81 ?_
            refine x_get (v := .int (σ 32 1)) (kc := 32) (index := 272) B G.1 iX7_count_cX2 rfl (s_kC s_iC32) (s_cC s_iC32) 1 (by decide) iX7_count_7 rfl dX7_count_84 ?_
            obtain rfl := x_retP hf
            exact x_iret B hr dX7_count_87
          · replace hf := x_if h7 hf
            by_cases h8 : a1 = 5
            · replace hf := x_it h8 hf
              refine x_tableIn (tgt := 88) (off := 87) B dX7_count_1 (by rw [h8]; decide) (by rw [h8]; decide) (by rw [h8]; rfl) (by decide) ?_
              refine x_aload_n B dX7_count_88 rfl 0 rfl ?_
              refine x_get (v := .ref (ad 32)) (kc := 0) (index := 26) B G.1 iX7_count_cX7 rfl (by decide) s_c0 2 (by decide) iX7_count_2 rfl dX7_count_89 ?_
              refine x_get (v := .int (σ 32 4)) (kc := 32) (index := 173) B G.1 iX7_count_cX2 rfl (s_kC s_iC32) (s_cC s_iC32) 4 (by decide) iX7_count_8 rfl dX7_count_92 ?_
              obtain ⟨r10, e9, hf⟩ := x_ps hf
              refine x_callS (As := [.int (σ 32 4)]) (st := []) B G (mJ6_bitCount_0f7a4 (l := l) G.1.2.1  e9) (va_cwS 1 B.2.2.2.2.1 gX7_count_J6_bitCount_0f7a4 rfl rfl rfl hdJ6_bitCount_0f7a4 (x_rm_ok (by omega) (by decide))) rfl rfl (Nat.le_of_ble_eq_true rfl) ⟨Nat.zero_le _, Nat.zero_le _⟩ dX7_count_95 ?_
              obtain rfl := x_retP hf
              exact x_iret B hr dX7_count_98
            · replace hf := x_if h8 hf
              by_cases h11 : a1 = 6
              · replace hf := x_it h11 hf
                refine x_tableIn (tgt := 99) (off := 98) B dX7_count_1 (by rw [h11]; decide) (by rw [h11]; decide) (by rw [h11]; rfl) (by decide) ?_
                refine x_aload_n B dX7_count_99 rfl 0 rfl ?_
                refine x_get (v := .ref (ad 16)) (kc := 0) (index := 40) B G.1 iX7_count_cX7 rfl (by decide) s_c0 5 (by decide) iX7_count_9 rfl dX7_count_100 ?_
                refine x_get (v := .int (σ 16 4)) (kc := 16) (index := 176) B G.1 iX7_count_cX0 rfl (by decide) s_c16 4 (by decide) iX7_count_10 rfl dX7_count_103 ?_
                obtain rfl := x_retP hf
                exact x_iret B hr dX7_count_106
              · replace hf := x_if h11 hf
                by_cases h12 : a1 = 7
                · replace hf := x_it h12 hf
                  refine x_tableIn (tgt := 107) (off := 106) B dX7_count_1 (by rw [h12]; decide) (by rw [h12]; decide) (by rw [h12]; rfl) (by decide) ?_
                  refine x_aload_n B dX7_count_107 rfl 0 rfl ?_
                  refine x_get (v := .ref (ad 13)) (kc := 0) (index := 19) B G.1 iX7_count_cX7 rfl (by decide) s_c0 1 (by decide) iX7_count_12 rfl dX7_count_108 ?_
                  refine x_get (v := .int (σ 13 1)) (kc := 13) (index := 280) B G.1 iX7_count_cX4 rfl (by decide) s_c13 1 (by decide) iX7_count_13 rfl dX7_count_111 ?_
                  obtain rfl := x_retP hf
                  exact x_iret B hr dX7_count_114
                · replace hf := x_if h12 hf
                  refine x_tableOut (tgt := 115) B dX7_count_1 (by have g0 := lv_neT (a := 0) h1 rfl; have g1 := lv_neT (a := 1) h4 rfl; have g2 := lv_neT (a := 2) h5 rfl; have g3 := lv_neT (a := 3) h6 rfl; have g4 := lv_neT (a := 4) h7 rfl; have g5 := lv_neT (a := 5) h8 rfl; have g6 := lv_neT (a := 6) h11 rfl; have g7 := lv_neT (a := 7) h12 rfl; omega) (by decide) ?_
                  refine x_ldc (v := (-1000001)) B iX7_count_15 dX7_count_115 ?_
                  obtain rfl := x_retP hf
                  exact x_iret B hr dX7_count_117
theorem iX7_status_0 : Cond.fieldLink RX7 58 "SignDuty" "lastFinding" "I" ∈ wsX7_status := by decide +kernel
theorem iX7_status_cX7 : ∀ w ∈ u_ws RX7 TX7 9, w ∈ wsX7_status := by decide +kernel
set_option maxRecDepth 100000 in
set_option maxHeartbeats 4000000 in
theorem mX7_status {σ : x_S} (hdis : x_dis s_N ad) (hf : fX7_status  σ = some r0) : x_NI l yX7_status wsX7_status 0 D vwCl (s_tys cI cQ cC cZ) s_N (s_C cI cQ cC ad) ad (s_St aS) s_NW [.ref (ad 0)] σ r0 σ := by
  refine x_met (cc := cX7_status) (own := RX7) (maxL := 1) (ret := (some .int)) (by decide +kernel) rfl rfl (Nat.le_of_ble_eq_true rfl) hdis (s_StOk aS) s_NwOk (fun p e s m args below meth c B G hr => ?_)
  unfold fX7_status at hf
  refine x_sub (lv' := [(0, .ref (ad 0))]) [0] rfl ?_
  refine x_aload_n B dX7_status_0 rfl 0 rfl ?_
  refine x_get (v := .int (σ 0 8)) (kc := 0) (index := 58) B G.1 iX7_status_cX7 rfl (by decide) s_c0 8 (by decide) iX7_status_0 rfl dX7_status_1 ?_
  obtain rfl := x_retP hf
  exact x_iret B hr dX7_status_4
end G
