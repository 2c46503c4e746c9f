section G
variable {p : Program} {l : Launch} {e : Env} {s : State} {m : MethodId} {args : Array Value} {below : List Frame} {meth : Method} {c : Code}
variable {D : va_G} {cI cQ cC cZ : ClassId} {ad aS : Nat → Nat} {r0 : Int32} {σ0 : x_S}
theorem hdX2_begin : yX2_begin.cls = RX2 ∧ yX2_begin.cls ≠ "java/lang/invoke/MethodHandle" ∧ yX2_begin.cls ≠ "java/lang/invoke/VarHandle" ∧ (parseMethodDescriptor yX2_begin.desc).map (fun d => d.parameters.length) = some 1 := by decide +kernel
theorem iX2_begin_0 : Cond.fieldLink RX2 9 "SignDuty$City" "stands" "Z" ∈ wsX2_begin := by decide +kernel
theorem iX2_begin_cX2 : ∀ w ∈ u_ws RX2 TX2 13, w ∈ wsX2_begin := by decide +kernel
theorem iX2_begin_2 : Cond.fieldLink RX2 15 "SignDuty$City" "rate" "I" ∈ wsX2_begin := by decide +kernel
theorem iX2_begin_3 : Cond.fieldLink RX2 19 "SignDuty$City" "paid" "I" ∈ wsX2_begin := by decide +kernel
theorem iX2_begin_4 : Cond.fieldLink RX2 22 "SignDuty$City" "streets" "I" ∈ wsX2_begin := by decide +kernel
theorem iX2_begin_5 : Cond.fieldLink RX2 25 "SignDuty$City" "known" "I" ∈ wsX2_begin := by decide +kernel
theorem iX2_begin_6 : Cond.fieldLink RX2 28 "SignDuty$City" "gestures" "I" ∈ wsX2_begin := by decide +kernel
set_option maxRecDepth 100000 in
set_option maxHeartbeats 4000000 in
theorem mX2_begin {σ : x_S} {c0 : Nat} {a1 : Int32} (hdis : x_dis s_N ad) (hc0 : s_iC c0) (hf : fX2_begin c0 a1 σ = some σ0) : x_NV l yX2_begin wsX2_begin 0 D vwCl (s_tys cI cQ cC cZ) s_N (s_C cI cQ cC ad) ad (s_St aS) s_NW [.ref (ad c0), .int a1] σ σ0 := by
  refine x_met (cc := cX2_begin) (own := RX2) (maxL := 2) (ret := none) (by decide +kernel) rfl rfl (Nat.le_of_ble_eq_true rfl) hdis (s_StOk aS) s_NwOk (fun p e s m args below meth c B G hr => ?_)
  unfold fX2_begin at hf
  refine x_sub (lv' := [(0, .ref (ad c0)), (1, .int a1)]) [0, 1] rfl ?_
  refine x_aload_n B dX2_begin_0 rfl 0 rfl ?_
  refine x_iconst (v := 1) B dX2_begin_1 (by decide) ?_
  obtain ⟨σ1, u2, hf⟩ := x_ws hf
  refine x_put (v := 1) (ty := .boolean) (kc := c0) (index := 9) B G.1 iX2_begin_cX2 tyX2 tyX2_ok nmX2 rfl (s_kC hc0) (s_cC hc0) 0 (by decide) iX2_begin_0 rfl rfl rfl (by decide) (Nat.le_of_ble_eq_true rfl) (s_w2_0 _ _) dX2_begin_2 ?_
  refine x_nm u2 ?_
  refine x_aload_n B dX2_begin_5 rfl 0 rfl ?_
  refine x_iload_n B dX2_begin_6 rfl 1 rfl ?_
  obtain ⟨σ3, u4, hf⟩ := x_ws hf
  refine x_put (v := a1) (ty := .int) (kc := c0) (index := 15) B G.1 iX2_begin_cX2 tyX2 tyX2_ok nmX2 rfl (s_kC hc0) (s_cC hc0) 1 (by decide) iX2_begin_2 rfl rfl rfl rfl (Nat.le_of_ble_eq_true rfl) (s_w2_1 _ _) dX2_begin_7 ?_
  refine x_nm u4 ?_
  refine x_aload_n B dX2_begin_10 rfl 0 rfl ?_
  refine x_iconst (v := 0) B dX2_begin_11 (by decide) ?_
  obtain ⟨σ5, u6, hf⟩ := x_ws hf
  refine x_put (v := 0) (ty := .int) (kc := c0) (index := 19) B G.1 iX2_begin_cX2 tyX2 tyX2_ok nmX2 rfl (s_kC hc0) (s_cC hc0) 2 (by decide) iX2_begin_3 rfl rfl rfl rfl (Nat.le_of_ble_eq_true rfl) (s_w2_2 _ _) dX2_begin_12 ?_
  refine x_nm u6 ?_
  refine x_aload_n B dX2_begin_15 rfl 0 rfl ?_
  refine x_iconst (v := 0) B dX2_begin_16 (by decide) ?_
  obtain ⟨σ7, u8, hf⟩ := x_ws hf
  refine x_put (v := 0) (ty := .int) (kc := c0) (index := 22) B G.1 iX2_begin_cX2 tyX2 tyX2_ok nmX2 rfl (s_kC hc0) (s_cC hc0) 3 (by decide) iX2_begin_4 rfl rfl rfl rfl (Nat.le_of_ble_eq_true rfl) (s_w2_3 _ _) dX2_begin_17 ?_
  refine x_nm u8 ?_
  refine x_aload_n B dX2_begin_20 rfl 0 rfl ?_
  refine x_iconst (v := 0) B dX2_begin_21 (by decide) ?_
  obtain ⟨σ9, u10, hf⟩ := x_ws hf
  refine x_put (v := 0) (ty := .int) (kc := c0) (index := 25) B G.1 iX2_begin_cX2 tyX2 tyX2_ok nmX2 rfl (s_kC hc0) (s_cC hc0) 4 (by decide) iX2_begin_5 rfl rfl rfl rfl (Nat.le_of_ble_eq_true rfl) (s_w2_4 _ _) dX2_begin_22 ?_
  refine x_nm u10 ?_
  refine x_aload_n B dX2_begin_25 rfl 0 rfl ?_
  refine x_iconst (v := 0) B dX2_begin_26 (by decide) ?_
  obtain ⟨σ11, u12, hf⟩ := x_ws hf
  refine x_put (v := 0) (ty := .int) (kc := c0) (index := 28) B G.1 iX2_begin_cX2 tyX2 tyX2_ok nmX2 rfl (s_kC hc0) (s_cC hc0) 5 (by decide) iX2_begin_6 rfl rfl rfl rfl (Nat.le_of_ble_eq_true rfl) (s_w2_5 _ _) dX2_begin_27 ?_
  refine x_nm u12 ?_
  obtain rfl := x_retV hf
  exact x_vret B hr dX2_begin_30
theorem hdX3_ofLetter : yX3_ofLetter.cls ≠ "java/lang/invoke/MethodHandle" ∧ yX3_ofLetter.cls ≠ "java/lang/invoke/VarHandle" ∧ (parseMethodDescriptor yX3_ofLetter.desc).map (fun d => d.parameters.length) = some 1 := by decide +kernel
set_option maxRecDepth 100000 in
set_option maxHeartbeats 4000000 in
theorem mX3_ofLetter {σ : x_S} {a0 : Int32} (hdis : x_dis s_N ad) (hf : fX3_ofLetter a0 σ = some r0) : x_NI l yX3_ofLetter wsX3_ofLetter 0 D vwCl (s_tys cI cQ cC cZ) s_N (s_C cI cQ cC ad) ad (s_St aS) s_NW [.int a0] σ r0 σ := by
  refine x_met (cc := cX3_ofLetter) (own := RX3) (maxL := 1) (ret := (some .int)) (by decide +kernel) rfl rfl (Nat.le_of_ble_eq_true rfl) hdis (s_StOk aS) s_NwOk (fun p e s m args below meth c B G hr => ?_)
  unfold fX3_ofLetter at hf
  refine x_sub (lv' := [(0, .int a0)]) [0] rfl ?_
  refine x_iload_n B dX3_ofLetter_0 rfl 0 rfl ?_
  by_cases h1 : a0 = 98
  · replace hf := x_it h1 hf
    refine x_lookup (tgt := 56) (off := 55) B dX3_ofLetter_1 (by decide) (by rw [h1]; rfl) (by decide) ?_
    refine x_iconst (v := 3) B dX3_ofLetter_56 (by decide) ?_
    obtain rfl := x_retP hf
    exact x_iret B hr dX3_ofLetter_57
  · replace hf := x_if h1 hf
    by_cases h2 : a0 = 107
    · replace hf := x_it h2 hf
      refine x_lookup (tgt := 58) (off := 57) B dX3_ofLetter_1 (by decide) (by rw [h2]; rfl) (by decide) ?_
      refine x_iconst (v := 4) B dX3_ofLetter_58 (by decide) ?_
      obtain rfl := x_retP hf
      exact x_iret B hr dX3_ofLetter_59
    · replace hf := x_if h2 hf
      by_cases h3 : a0 = 110
      · replace hf := x_it h3 hf
        refine x_lookup (tgt := 54) (off := 53) B dX3_ofLetter_1 (by decide) (by rw [h3]; rfl) (by decide) ?_
        refine x_iconst (v := 2) B dX3_ofLetter_54 (by decide) ?_
        obtain rfl := x_retP hf
        exact x_iret B hr dX3_ofLetter_55
      · replace hf := x_if h3 hf
        by_cases h4 : a0 = 115
        · replace hf := x_it h4 hf
          refine x_lookup (tgt := 60) (off := 59) B dX3_ofLetter_1 (by decide) (by rw [h4]; rfl) (by decide) ?_
          refine x_iconst (v := 5) B dX3_ofLetter_60 (by decide) ?_
          obtain rfl := x_retP hf
          exact x_iret B hr dX3_ofLetter_61
        · replace hf := x_if h4 hf
          by_cases h5 : a0 = 119
          · replace hf := x_it h5 hf
            refine x_lookup (tgt := 52) (off := 51) B dX3_ofLetter_1 (by decide) (by rw [h5]; rfl) (by decide) ?_
            refine x_iconst (v := 1) B dX3_ofLetter_52 (by decide) ?_
            obtain rfl := x_retP hf
            exact x_iret B hr dX3_ofLetter_53
          · replace hf := x_if h5 hf
            refine x_lookup (tgt := 62) (off := 61) B dX3_ofLetter_1 (by decide) (by show Op.lookupswitch.offset [(98, 55), (107, 57), (110, 53), (115, 59), (119, 51)] 61 _ = _; rw [lv_osw h1 (show (98 : Int32).toInt = 98 from rfl), lv_osw h2 (show (107 : Int32).toInt = 107 from rfl), lv_osw h3 (show (110 : Int32).toInt = 110 from rfl), lv_osw h4 (show (115 : Int32).toInt = 115 from rfl), lv_osw h5 (show (119 : Int32).toInt = 119 from rfl)]; rfl) (by decide) ?_
            refine x_iconst (v := 0) B dX3_ofLetter_62 (by decide) ?_
            obtain rfl := x_retP hf
            exact x_iret B hr dX3_ofLetter_63
theorem hdX2_become : yX2_become.cls = RX2 ∧ yX2_become.cls ≠ "java/lang/invoke/MethodHandle" ∧ yX2_become.cls ≠ "java/lang/invoke/VarHandle" ∧ (parseMethodDescriptor yX2_become.desc).map (fun d => d.parameters.length) = some 1 := by decide +kernel
theorem iX2_become_0 : Cond.fieldLink RX2 9 "SignDuty$City" "stands" "Z" ∈ wsX2_become := by decide +kernel
theorem iX2_become_cX2 : ∀ w ∈ u_ws RX2 TX2 13, w ∈ wsX2_become := by decide +kernel
theorem iX2_become_2 : Cond.fieldLink RX2 15 "SignDuty$City" "rate" "I" ∈ wsX2_become := by decide +kernel
theorem iX2_become_3 : Cond.fieldLink RX2 19 "SignDuty$City" "paid" "I" ∈ wsX2_become := by decide +kernel
theorem iX2_become_4 : Cond.fieldLink RX2 22 "SignDuty$City" "streets" "I" ∈ wsX2_become := by decide +kernel
theorem iX2_become_5 : Cond.fieldLink RX2 25 "SignDuty$City" "known" "I" ∈ wsX2_become := by decide +kernel
theorem iX2_become_6 : Cond.fieldLink RX2 28 "SignDuty$City" "gestures" "I" ∈ wsX2_become := by decide +kernel
theorem iX2_become_7 : Cond.fieldLink RX2 31 "SignDuty$City" "dim" "[I" ∈ wsX2_become := by decide +kernel
theorem iX2_become_8 : Cond.methodLink RX2 53 arraycopyName ∈ wsX2_become := by decide +kernel
theorem iX2_become_9 : Cond.native arraycopyName ∈ wsX2_become := by decide +kernel
theorem iX2_become_10 : Cond.static arraycopyName ∈ wsX2_become := by decide +kernel
theorem iX2_become_11 : Cond.initialized "java/lang/System" ∈ wsX2_become := by decide +kernel
theorem iX2_become_12 : Cond.fieldLink RX2 35 "SignDuty$City" "strict" "[I" ∈ wsX2_become := by decide +kernel
theorem iX2_become_13 : Cond.fieldLink RX2 38 "SignDuty$City" "kind" "[I" ∈ wsX2_become := by decide +kernel
theorem iX2_become_14 : Cond.fieldLink RX2 41 "SignDuty$City" "inches" "[I" ∈ wsX2_become := by decide +kernel
theorem iX2_become_15 : Cond.fieldLink RX2 44 "SignDuty$City" "means" "[I" ∈ wsX2_become := by decide +kernel
theorem iX2_become_16 : Cond.fieldLink RX2 47 "SignDuty$City" "takes" "[I" ∈ wsX2_become := by decide +kernel
theorem iX2_become_17 : Cond.fieldLink RX2 50 "SignDuty$City" "made" "[I" ∈ wsX2_become := by decide +kernel
set_option maxRecDepth 100000 in
set_option maxHeartbeats 4000000 in
theorem mX2_become {σ : x_S} {c0 : Nat} {c1 : Nat} (hdis : x_dis s_N ad) (hc0 : s_iC c0) (hc1 : s_iC c1) (hf : fX2_become c0 c1 σ = some σ0) : x_NV l yX2_become wsX2_become 1 D vwCl (s_tys cI cQ cC cZ) s_N (s_C cI cQ cC ad) ad (s_St aS) s_NW [.ref (ad c0), .ref (ad c1)] σ σ0 := by
  refine x_met (cc := cX2_become) (own := RX2) (maxL := 2) (ret := none) (by decide +kernel) rfl rfl (Nat.le_of_ble_eq_true rfl) hdis (s_StOk aS) s_NwOk (fun p e s m args below meth c B G hr => ?_)
  unfold fX2_become at hf
  refine x_sub (lv' := [(0, .ref (ad c0)), (1, .ref (ad c1))]) [0, 1] rfl ?_
  refine x_aload_n B dX2_become_0 rfl 0 rfl ?_
  refine x_aload_n B dX2_become_1 rfl 1 rfl ?_
  refine x_get (v := .int (σ c1 0)) (kc := c1) (index := 9) B G.1 iX2_become_cX2 rfl (s_kC hc1) (s_cC hc1) 0 (by decide) iX2_become_0 rfl dX2_become_2 ?_
  obtain ⟨h1, hf⟩ := x_gs hf
  obtain ⟨σ2, u3, hf⟩ := x_ws hf
  refine x_put (v := (σ c1 0)) (ty := .boolean) (kc := c0) (index := 9) B G.1 iX2_become_cX2 tyX2 tyX2_ok nmX2 rfl (s_kC hc0) (s_cC hc0) 0 (by decide) iX2_become_0 rfl rfl (by rcases h1 with h | h <;> rw [h] <;> rfl) (by rcases h1 with h | h <;> rw [h] <;> rfl) (Nat.le_of_ble_eq_true rfl) (s_w2_0 _ _) dX2_become_5 ?_
  refine x_nm u3 ?_
  refine x_aload_n B dX2_become_8 rfl 0 rfl ?_
  refine x_aload_n B dX2_become_9 rfl 1 rfl ?_
  refine x_get (v := .int (σ2 c1 1)) (kc := c1) (index := 15) B G.1 iX2_become_cX2 rfl (s_kC hc1) (s_cC hc1) 1 (by decide) iX2_become_2 rfl dX2_become_10 ?_
  obtain ⟨σ4, u5, hf⟩ := x_ws hf
  refine x_put (v := (σ2 c1 1)) (ty := .int) (kc := c0) (index := 15) B G.1 iX2_become_cX2 tyX2 tyX2_ok nmX2 rfl (s_kC hc0) (s_cC hc0) 1 (by decide) iX2_become_2 rfl rfl rfl rfl (Nat.le_of_ble_eq_true rfl) (s_w2_1 _ _) dX2_become_13 ?_
  refine x_nm u5 ?_
  refine x_aload_n B dX2_become_16 rfl 0 rfl ?_
  refine x_aload_n B dX2_become_17 rfl 1 rfl ?_
  refine x_get (v := .int (σ4 c1 2)) (kc := c1) (index := 19) B G.1 iX2_become_cX2 rfl (s_kC hc1) (s_cC hc1) 2 (by decide) iX2_become_3 rfl dX2_become_18 ?_
  obtain ⟨σ6, u7, hf⟩ := x_ws hf
  refine x_put (v := (σ4 c1 2)) (ty := .int) (kc := c0) (index := 19) B G.1 iX2_become_cX2 tyX2 tyX2_ok nmX2 rfl (s_kC hc0) (s_cC hc0) 2 (by decide) iX2_become_3 rfl rfl rfl rfl (Nat.le_of_ble_eq_true rfl) (s_w2_2 _ _) dX2_become_21 ?_
  refine x_nm u7 ?_
  refine x_aload_n B dX2_become_24 rfl 0 rfl ?_
  refine x_aload_n B dX2_become_25 rfl 1 rfl ?_
  refine x_get (v := .int (σ6 c1 3)) (kc := c1) (index := 22) B G.1 iX2_become_cX2 rfl (s_kC hc1) (s_cC hc1) 3 (by decide) iX2_become_4 rfl dX2_become_26 ?_
  obtain ⟨σ8, u9, hf⟩ := x_ws hf
  refine x_put (v := (σ6 c1 3)) (ty := .int) (kc := c0) (index := 22) B G.1 iX2_become_cX2 tyX2 tyX2_ok nmX2 rfl (s_kC hc0) (s_cC hc0) 3 (by decide) iX2_become_4 rfl rfl rfl rfl (Nat.le_of_ble_eq_true rfl) (s_w2_3 _ _) dX2_become_29 ?_
  refine x_nm u9 ?_
  refine x_aload_n B dX2_become_32 rfl 0 rfl ?_
  refine x_aload_n B dX2_become_33 rfl 1 rfl ?_
  refine x_get (v := .int (σ8 c1 4)) (kc := c1) (index := 25) B G.1 iX2_become_cX2 rfl (s_kC hc1) (s_cC hc1) 4 (by decide) iX2_become_5 rfl dX2_become_34 ?_
  obtain ⟨σ10, u11, hf⟩ := x_ws hf
  refine x_put (v := (σ8 c1 4)) (ty := .int) (kc := c0) (index := 25) B G.1 iX2_become_cX2 tyX2 tyX2_ok nmX2 rfl (s_kC hc0) (s_cC hc0) 4 (by decide) iX2_become_5 rfl rfl rfl rfl (Nat.le_of_ble_eq_true rfl) (s_w2_4 _ _) dX2_become_37 ?_
  refine x_nm u11 ?_
  refine x_aload_n B dX2_become_40 rfl 0 rfl ?_
  refine x_aload_n B dX2_become_41 rfl 1 rfl ?_
  refine x_get (v := .int (σ10 c1 5)) (kc := c1) (index := 28) B G.1 iX2_become_cX2 rfl (s_kC hc1) (s_cC hc1) 5 (by decide) iX2_become_6 rfl dX2_become_42 ?_
  obtain ⟨σ12, u13, hf⟩ := x_ws hf
  refine x_put (v := (σ10 c1 5)) (ty := .int) (kc := c0) (index := 28) B G.1 iX2_become_cX2 tyX2 tyX2_ok nmX2 rfl (s_kC hc0) (s_cC hc0) 5 (by decide) iX2_become_6 rfl rfl rfl rfl (Nat.le_of_ble_eq_true rfl) (s_w2_5 _ _) dX2_become_45 ?_
  refine x_nm u13 ?_
  refine x_aload_n B dX2_become_48 rfl 1 rfl ?_
  refine x_get (v := .ref (ad (c1 + 1))) (kc := c1) (index := 31) B G.1 iX2_become_cX2 rfl (s_kC hc1) (s_cC hc1) 6 (by decide) iX2_become_7 rfl dX2_become_49 ?_
  refine x_iconst (v := 0) B dX2_become_52 (by decide) ?_
  refine x_aload_n B dX2_become_53 rfl 0 rfl ?_
  refine x_get (v := .ref (ad (c0 + 1))) (kc := c0) (index := 31) B G.1 iX2_become_cX2 rfl (s_kC hc0) (s_cC hc0) 6 (by decide) iX2_become_7 rfl dX2_become_54 ?_
  refine x_iconst (v := 0) B dX2_become_57 (by decide) ?_
  refine x_bipush (v := 7) B dX2_become_58 (by decide) ?_
  obtain ⟨h14, hf⟩ := x_gs hf
  obtain ⟨σ15, u16, hf⟩ := x_ws hf
  refine x_copy (k0 := c1 + 1) (k1 := c0 + 1) (t0 := 0) B G.1 iX2_become_8 iX2_become_9 iX2_become_10 iX2_become_11 (s_kC1 hc1) (s_kC1 hc0) (s_cC1 hc1) (s_cC1 hc0) rfl h14 ⟨Nat.le_of_ble_eq_true rfl, Nat.le_of_ble_eq_true rfl⟩ dX2_become_60 ?_
  refine x_nm u16 ?_
  refine x_aload_n B dX2_become_63 rfl 1 rfl ?_
  refine x_get (v := .ref (ad (c1 + 2))) (kc := c1) (index := 35) B G.1 iX2_become_cX2 rfl (s_kC hc1) (s_cC hc1) 7 (by decide) iX2_become_12 rfl dX2_become_64 ?_
  refine x_iconst (v := 0) B dX2_become_67 (by decide) ?_
  refine x_aload_n B dX2_become_68 rfl 0 rfl ?_
  refine x_get (v := .ref (ad (c0 + 2))) (kc := c0) (index := 35) B G.1 iX2_become_cX2 rfl (s_kC hc0) (s_cC hc0) 7 (by decide) iX2_become_12 rfl dX2_become_69 ?_
  refine x_iconst (v := 0) B dX2_become_72 (by decide) ?_
  refine x_bipush (v := 7) B dX2_become_73 (by decide) ?_
  obtain ⟨h17, hf⟩ := x_gs hf
  obtain ⟨σ18, u19, hf⟩ := x_ws hf
  refine x_copy (k0 := c1 + 2) (k1 := c0 + 2) (t0 := 0) B G.1 iX2_become_8 iX2_become_9 iX2_become_10 iX2_become_11 (s_kC2 hc1) (s_kC2 hc0) (s_cC2 hc1) (s_cC2 hc0) rfl h17 ⟨Nat.le_of_ble_eq_true rfl, Nat.le_of_ble_eq_true rfl⟩ dX2_become_75 ?_
  refine x_nm u19 ?_
  refine x_aload_n B dX2_become_78 rfl 1 rfl ?_
  refine x_get (v := .ref (ad (c1 + 3))) (kc := c1) (index := 38) B G.1 iX2_become_cX2 rfl (s_kC hc1) (s_cC hc1) 8 (by decide) iX2_become_13 rfl dX2_become_79 ?_
  refine x_iconst (v := 0) B dX2_become_82 (by decide) ?_
  refine x_aload_n B dX2_become_83 rfl 0 rfl ?_
  refine x_get (v := .ref (ad (c0 + 3))) (kc := c0) (index := 38) B G.1 iX2_become_cX2 rfl (s_kC hc0) (s_cC hc0) 8 (by decide) iX2_become_13 rfl dX2_become_84 ?_
  refine x_iconst (v := 0) B dX2_become_87 (by decide) ?_
  refine x_bipush (v := 6) B dX2_become_88 (by decide) ?_
  obtain ⟨h20, hf⟩ := x_gs hf
  obtain ⟨σ21, u22, hf⟩ := x_ws hf
  refine x_copy (k0 := c1 + 3) (k1 := c0 + 3) (t0 := 0) B G.1 iX2_become_8 iX2_become_9 iX2_become_10 iX2_become_11 (s_kC3 hc1) (s_kC3 hc0) (s_cC3 hc1) (s_cC3 hc0) rfl h20 ⟨Nat.le_of_ble_eq_true rfl, Nat.le_of_ble_eq_true rfl⟩ dX2_become_90 ?_
  refine x_nm u22 ?_
  refine x_aload_n B dX2_become_93 rfl 1 rfl ?_
  refine x_get (v := .ref (ad (c1 + 4))) (kc := c1) (index := 41) B G.1 iX2_become_cX2 rfl (s_kC hc1) (s_cC hc1) 9 (by decide) iX2_become_14 rfl dX2_become_94 ?_
  refine x_iconst (v := 0) B dX2_become_97 (by decide) ?_
  refine x_aload_n B dX2_become_98 rfl 0 rfl ?_
  refine x_get (v := .ref (ad (c0 + 4))) (kc := c0) (index := 41) B G.1 iX2_become_cX2 rfl (s_kC hc0) (s_cC hc0) 9 (by decide) iX2_become_14 rfl dX2_become_99 ?_
  refine x_iconst (v := 0) B dX2_become_102 (by decide) ?_
  refine x_bipush (v := 6) B dX2_become_103 (by decide) ?_
  obtain ⟨h23, hf⟩ := x_gs hf
  obtain ⟨σ24, u25, hf⟩ := x_ws hf
  refine x_copy (k0 := c1 + 4) (k1 := c0 + 4) (t0 := 0) B G.1 iX2_become_8 iX2_become_9 iX2_become_10 iX2_become_11 (s_kC4 hc1) (s_kC4 hc0) (s_cC4 hc1) (s_cC4 hc0) rfl h23 ⟨Nat.le_of_ble_eq_true rfl, Nat.le_of_ble_eq_true rfl⟩ dX2_become_105 ?_
  refine x_nm u25 ?_
  refine x_aload_n B dX2_become_108 rfl 1 rfl ?_
  refine x_get (v := .ref (ad (c1 + 5))) (kc := c1) (index := 44) B G.1 iX2_become_cX2 rfl (s_kC hc1) (s_cC hc1) 10 (by decide) iX2_become_15 rfl dX2_become_109 ?_
  refine x_iconst (v := 0) B dX2_become_112 (by decide) ?_
  refine x_aload_n B dX2_become_113 rfl 0 rfl ?_
  refine x_get (v := .ref (ad (c0 + 5))) (kc := c0) (index := 44) B G.1 iX2_become_cX2 rfl (s_kC hc0) (s_cC hc0) 10 (by decide) iX2_become_15 rfl dX2_become_114 ?_
  refine x_iconst (v := 0) B dX2_become_117 (by decide) ?_
  refine x_bipush (v := 6) B dX2_become_118 (by decide) ?_
  obtain ⟨h26, hf⟩ := x_gs hf
  obtain ⟨σ27, u28, hf⟩ := x_ws hf
  refine x_copy (k0 := c1 + 5) (k1 := c0 + 5) (t0 := 0) B G.1 iX2_become_8 iX2_become_9 iX2_become_10 iX2_become_11 (s_kC5 hc1) (s_kC5 hc0) (s_cC5 hc1) (s_cC5 hc0) rfl h26 ⟨Nat.le_of_ble_eq_true rfl, Nat.le_of_ble_eq_true rfl⟩ dX2_become_120 ?_
  refine x_nm u28 ?_
  refine x_aload_n B dX2_become_123 rfl 1 rfl ?_
  refine x_get (v := .ref (ad (c1 + 6))) (kc := c1) (index := 47) B G.1 iX2_become_cX2 rfl (s_kC hc1) (s_cC hc1) 11 (by decide) iX2_become_16 rfl dX2_become_124 ?_
  refine x_iconst (v := 0) B dX2_become_127 (by decide) ?_
  refine x_aload_n B dX2_become_128 rfl 0 rfl ?_
  refine x_get (v := .ref (ad (c0 + 6))) (kc := c0) (index := 47) B G.1 iX2_become_cX2 rfl (s_kC hc0) (s_cC hc0) 11 (by decide) iX2_become_16 rfl dX2_become_129 ?_
  refine x_iconst (v := 0) B dX2_become_132 (by decide) ?_
  refine x_bipush (v := 6) B dX2_become_133 (by decide) ?_
  obtain ⟨h29, hf⟩ := x_gs hf
  obtain ⟨σ30, u31, hf⟩ := x_ws hf
  refine x_copy (k0 := c1 + 6) (k1 := c0 + 6) (t0 := 0) B G.1 iX2_become_8 iX2_become_9 iX2_become_10 iX2_become_11 (s_kC6 hc1) (s_kC6 hc0) (s_cC6 hc1) (s_cC6 hc0) rfl h29 ⟨Nat.le_of_ble_eq_true rfl, Nat.le_of_ble_eq_true rfl⟩ dX2_become_135 ?_
  refine x_nm u31 ?_
  refine x_aload_n B dX2_become_138 rfl 1 rfl ?_
  refine x_get (v := .ref (ad (c1 + 7))) (kc := c1) (index := 50) B G.1 iX2_become_cX2 rfl (s_kC hc1) (s_cC hc1) 12 (by decide) iX2_become_17 rfl dX2_become_139 ?_
  refine x_iconst (v := 0) B dX2_become_142 (by decide) ?_
  refine x_aload_n B dX2_become_143 rfl 0 rfl ?_
  refine x_get (v := .ref (ad (c0 + 7))) (kc := c0) (index := 50) B G.1 iX2_become_cX2 rfl (s_kC hc0) (s_cC hc0) 12 (by decide) iX2_become_17 rfl dX2_become_144 ?_
  refine x_iconst (v := 0) B dX2_become_147 (by decide) ?_
  refine x_bipush (v := 6) B dX2_become_148 (by decide) ?_
  obtain ⟨h32, hf⟩ := x_gs hf
  obtain ⟨σ33, u34, hf⟩ := x_ws hf
  refine x_copy (k0 := c1 + 7) (k1 := c0 + 7) (t0 := 0) B G.1 iX2_become_8 iX2_become_9 iX2_become_10 iX2_become_11 (s_kC7 hc1) (s_kC7 hc0) (s_cC7 hc1) (s_cC7 hc0) rfl h32 ⟨Nat.le_of_ble_eq_true rfl, Nat.le_of_ble_eq_true rfl⟩ dX2_become_150 ?_
  refine x_nm u34 ?_
  obtain rfl := x_retV hf
  exact x_vret B hr dX2_become_153
theorem hdX2_isSeen : yX2_isSeen.cls = RX2 ∧ yX2_isSeen.cls ≠ "java/lang/invoke/MethodHandle" ∧ yX2_isSeen.cls ≠ "java/lang/invoke/VarHandle" ∧ (parseMethodDescriptor yX2_isSeen.desc).map (fun d => d.parameters.length) = some 2 := by decide +kernel
theorem iX2_isSeen_0 : Cond.fieldLink RX2 38 "SignDuty$City" "kind" "[I" ∈ wsX2_isSeen := by decide +kernel
theorem iX2_isSeen_cX2 : ∀ w ∈ u_ws RX2 TX2 13, w ∈ wsX2_isSeen := by decide +kernel
theorem iX2_isSeen_2 : Cond.fieldLink RX2 41 "SignDuty$City" "inches" "[I" ∈ wsX2_isSeen := by decide +kernel
theorem iX2_isSeen_3 : Cond.fieldLink RX2 31 "SignDuty$City" "dim" "[I" ∈ wsX2_isSeen := by decide +kernel
set_option maxRecDepth 100000 in
set_option maxHeartbeats 4000000 in
theorem kX2_isSeen_41 {σ : x_S} {c0 : Nat} {x2 : Int32} {y0 : Int32} {y1 : Int32} (B : x_B p s m args meth c cX2_isSeen 4 wsX2_isSeen RX2) (G : x_H s D vwCl (s_tys cI cQ cC cZ) s_N ad (x_A s_N ad) (s_St aS) s_NW) (hr : meth.sig.returnType = (some .boolean)) (hc0 : s_iC c0) (hf : bX2_isSeen_41  c0 x2 y0 y1 σ = some r0) : x_J p l e (x_rm 0) s m args below meth c 0 0 (MQ below (x_Qi D vwCl s_N (s_C cI cQ cC ad) ad r0 σ) args s 0 0 (x_A s_N ad)) (x_A s_N ad) 4 (x_I D vwCl s_N (s_C cI cQ cC ad) ad σ) [(0, .ref (ad c0)), (2, .int x2)] [.int y0, .int y1] 41 := by
  unfold bX2_isSeen_41 at hf
  refine x_iadd B dX2_isSeen_41 ?_
  refine x_aload_n B dX2_isSeen_42 rfl 0 rfl ?_
  refine x_get (v := .ref (ad (c0 + 1))) (kc := c0) (index := 31) B G.1 iX2_isSeen_cX2 rfl (s_kC hc0) (s_cC hc0) 6 (by decide) iX2_isSeen_3 rfl dX2_isSeen_43 ?_
  refine x_iload_n B dX2_isSeen_46 rfl 1 rfl ?_
  obtain ⟨h1, hf⟩ := x_gs hf
  refine x_iald (kc := c0 + 1) (t0 := 0) B G.1 (s_kC1 hc0) (s_cC1 hc0) rfl h1 dX2_isSeen_47 ?_
  refine x_icmp_lt (tgt := 55) B dX2_isSeen_48 (by decide) (fun h2 => ?_) (fun h2 => ?_)
  · replace hf := x_it h2 hf
    refine x_iconst (v := 0) B dX2_isSeen_55 (by decide) ?_
    obtain rfl := x_retP hf
    exact x_zret B hr (by decide) dX2_isSeen_56
  · replace hf := x_if h2 hf
    refine x_iconst (v := 1) B dX2_isSeen_51 (by decide) ?_
    refine x_goto (tgt := 56) B dX2_isSeen_52 (by decide) ?_
    obtain rfl := x_retP hf
    exact x_zret B hr (by decide) dX2_isSeen_56
set_option maxRecDepth 100000 in
set_option maxHeartbeats 4000000 in
theorem kX2_isSeen_25 {σ : x_S} {c0 : Nat} {x1 : Int32} {x2 : Int32} {y0 : Int32} (B : x_B p s m args meth c cX2_isSeen 4 wsX2_isSeen RX2) (G : x_H s D vwCl (s_tys cI cQ cC cZ) s_N ad (x_A s_N ad) (s_St aS) s_NW) (hr : meth.sig.returnType = (some .boolean)) (hc0 : s_iC c0) (hf : bX2_isSeen_25  c0 x1 x2 y0 σ = some r0) : x_J p l e (x_rm 0) s m args below meth c 0 0 (MQ below (x_Qi D vwCl s_N (s_C cI cQ cC ad) ad r0 σ) args s 0 0 (x_A s_N ad)) (x_A s_N ad) 4 (x_I D vwCl s_N (s_C cI cQ cC ad) ad σ) [(0, .ref (ad c0)), (1, .int x1), (2, .int x2)] [.int y0] 25 := by
  unfold bX2_isSeen_25 at hf
  refine x_istore_n (lv' := [(3, .int y0), (0, .ref (ad c0)), (1, .int x1), (2, .int x2)]) B dX2_isSeen_25 rfl (by decide) rfl ?_
  refine x_aload_n B dX2_isSeen_26 rfl 1 rfl ?_
  refine x_get (v := .ref (ad (c0 + 4))) (kc := c0) (index := 41) B G.1 iX2_isSeen_cX2 rfl (s_kC hc0) (s_cC hc0) 9 (by decide) iX2_isSeen_2 rfl dX2_isSeen_27 ?_
  refine x_iload_n B dX2_isSeen_30 rfl 2 rfl ?_
  obtain ⟨h1, hf⟩ := x_gs hf
  refine x_iald (kc := c0 + 4) (t0 := 0) B G.1 (s_kC4 hc0) (s_cC4 hc0) rfl h1 dX2_isSeen_31 ?_
  refine x_iload_n B dX2_isSeen_32 rfl 0 rfl ?_
  refine x_if_eq (tgt := 40) B dX2_isSeen_33 (by decide) (fun h2 => ?_) (fun h2 => ?_)
  · replace hf := x_it h2 hf
    refine x_iconst (v := 0) B dX2_isSeen_40 (by decide) ?_
    refine x_sub [1, 3] rfl ?_
    exact kX2_isSeen_41 B G hr hc0 hf
  · replace hf := x_if h2 hf
    refine x_iconst (v := 5) B dX2_isSeen_36 (by decide) ?_
    refine x_goto (tgt := 41) B dX2_isSeen_37 (by decide) ?_
    refine x_sub [1, 3] rfl ?_
    exact kX2_isSeen_41 B G hr hc0 hf
set_option maxRecDepth 100000 in
set_option maxHeartbeats 4000000 in
theorem mX2_isSeen {σ : x_S} {c0 : Nat} {a1 : Int32} {a2 : Int32} (hdis : x_dis s_N ad) (hc0 : s_iC c0) (hf : fX2_isSeen c0 a1 a2 σ = some r0) : x_NI l yX2_isSeen wsX2_isSeen 0 D vwCl (s_tys cI cQ cC cZ) s_N (s_C cI cQ cC ad) ad (s_St aS) s_NW [.ref (ad c0), .int a1, .int a2] σ r0 σ := by
  refine x_met (cc := cX2_isSeen) (own := RX2) (maxL := 4) (ret := (some .boolean)) (by decide +kernel) rfl rfl (Nat.le_of_ble_eq_true rfl) hdis (s_StOk aS) s_NwOk (fun p e s m args below meth c B G hr => ?_)
  unfold fX2_isSeen at hf
  refine x_sub (lv' := [(0, .ref (ad c0)), (1, .int a1), (2, .int a2)]) [0, 1, 2] rfl ?_
  refine x_aload_n B dX2_isSeen_0 rfl 0 rfl ?_
  refine x_get (v := .ref (ad (c0 + 3))) (kc := c0) (index := 38) B G.1 iX2_isSeen_cX2 rfl (s_kC hc0) (s_cC hc0) 8 (by decide) iX2_isSeen_0 rfl dX2_isSeen_1 ?_
  refine x_iload_n B dX2_isSeen_4 rfl 1 rfl ?_
  obtain ⟨h1, hf⟩ := x_gs hf
  refine x_iald (kc := c0 + 3) (t0 := 0) B G.1 (s_kC3 hc0) (s_cC3 hc0) rfl h1 dX2_isSeen_5 ?_
  refine x_iconst (v := 4) B dX2_isSeen_6 (by decide) ?_
  refine x_icmp_eq (tgt := 20) B dX2_isSeen_7 (by decide) (fun h2 => ?_) (fun h2 => ?_)
  · replace hf := x_it h2 hf
    refine x_iconst (v := 1) B dX2_isSeen_20 (by decide) ?_
    refine x_goto (tgt := 25) B dX2_isSeen_21 (by decide) ?_
    refine x_sub [0, 1, 2] rfl ?_
    exact kX2_isSeen_25 B G hr hc0 hf
  · replace hf := x_if h2 hf
    refine x_aload_n B dX2_isSeen_10 rfl 0 rfl ?_
    refine x_get (v := .ref (ad (c0 + 3))) (kc := c0) (index := 38) B G.1 iX2_isSeen_cX2 rfl (s_kC hc0) (s_cC hc0) 8 (by decide) iX2_isSeen_0 rfl dX2_isSeen_11 ?_
    refine x_iload_n B dX2_isSeen_14 rfl 1 rfl ?_
    obtain ⟨h3, hf⟩ := x_gs hf
    refine x_iald (kc := c0 + 3) (t0 := 0) B G.1 (s_kC3 hc0) (s_cC3 hc0) rfl h3 dX2_isSeen_15 ?_
    refine x_iconst (v := 5) B dX2_isSeen_16 (by decide) ?_
    refine x_icmp_ne (tgt := 24) B dX2_isSeen_17 (by decide) (fun h4 => ?_) (fun h4 => ?_)
    · replace hf := x_if h4 hf
      refine x_iconst (v := 0) B dX2_isSeen_24 (by decide) ?_
      refine x_sub [0, 1, 2] rfl ?_
      exact kX2_isSeen_25 B G hr hc0 hf
    · replace hf := x_it h4 hf
      refine x_iconst (v := 1) B dX2_isSeen_20 (by decide) ?_
      refine x_goto (tgt := 25) B dX2_isSeen_21 (by decide) ?_
      refine x_sub [0, 1, 2] rfl ?_
      exact kX2_isSeen_25 B G hr hc0 hf
theorem hdX2_owesUnknown : yX2_owesUnknown.cls = RX2 ∧ yX2_owesUnknown.cls ≠ "java/lang/invoke/MethodHandle" ∧ yX2_owesUnknown.cls ≠ "java/lang/invoke/VarHandle" ∧ (parseMethodDescriptor yX2_owesUnknown.desc).map (fun d => d.parameters.length) = some 3 := by decide +kernel
theorem iX2_owesUnknown_0 : Cond.fieldLink RX2 15 "SignDuty$City" "rate" "I" ∈ wsX2_owesUnknown := by decide +kernel
theorem iX2_owesUnknown_cX2 : ∀ w ∈ u_ws RX2 TX2 13, w ∈ wsX2_owesUnknown := by decide +kernel
theorem iX2_owesUnknown_2 : Cond.fieldLink RX2 35 "SignDuty$City" "strict" "[I" ∈ wsX2_owesUnknown := by decide +kernel
theorem iX2_owesUnknown_3 : Cond.methodLink RX2 70 Lib.Math.max.name ∈ wsX2_owesUnknown := by decide +kernel
theorem iX2_owesUnknown_4 : Cond.static Lib.Math.max.name ∈ wsX2_owesUnknown := by decide +kernel
theorem iX2_owesUnknown_5 : Cond.initialized "java/lang/Math" ∈ wsX2_owesUnknown := by decide +kernel
theorem iX2_owesUnknown_6 : Cond.code Lib.Math.max.name Lib.Math.max.code 2 (some .int) ∈ wsX2_owesUnknown := by decide +kernel
set_option maxRecDepth 100000 in
set_option maxHeartbeats 4000000 in
theorem mX2_owesUnknown {σ : x_S} {c0 : Nat} {a1 : Int32} {a2 : Int32} {a3 : Int32} (hdis : x_dis s_N ad) (hc0 : s_iC c0) (hf : fX2_owesUnknown c0 a1 a2 a3 σ = some r0) : x_NI l yX2_owesUnknown wsX2_owesUnknown 1 D vwCl (s_tys cI cQ cC cZ) s_N (s_C cI cQ cC ad) ad (s_St aS) s_NW [.ref (ad c0), .int a1, .int a2, .int a3] σ r0 σ := by
  refine x_met (cc := cX2_owesUnknown) (own := RX2) (maxL := 5) (ret := (some .int)) (by decide +kernel) rfl rfl (Nat.le_of_ble_eq_true rfl) hdis (s_StOk aS) s_NwOk (fun p e s m args below meth c B G hr => ?_)
  unfold fX2_owesUnknown at hf
  refine x_sub (lv' := [(0, .ref (ad c0)), (1, .int a1), (2, .int a2), (3, .int a3)]) [0, 1, 2, 3] rfl ?_
  refine x_iload_n B dX2_owesUnknown_0 rfl 2 rfl ?_
  refine x_aload_n B dX2_owesUnknown_1 rfl 0 rfl ?_
  refine x_get (v := .int (σ c0 1)) (kc := c0) (index := 15) B G.1 iX2_owesUnknown_cX2 rfl (s_kC hc0) (s_cC hc0) 1 (by decide) iX2_owesUnknown_0 rfl dX2_owesUnknown_2 ?_
  refine x_imul B dX2_owesUnknown_5 ?_
  refine x_iload_n B dX2_owesUnknown_6 rfl 2 rfl ?_
  refine x_aload_n B dX2_owesUnknown_7 rfl 0 rfl ?_
  refine x_get (v := .ref (ad (c0 + 2))) (kc := c0) (index := 35) B G.1 iX2_owesUnknown_cX2 rfl (s_kC hc0) (s_cC hc0) 7 (by decide) iX2_owesUnknown_2 rfl dX2_owesUnknown_8 ?_
  refine x_iload_n B dX2_owesUnknown_11 rfl 3 rfl ?_
  obtain ⟨h1, hf⟩ := x_gs hf
  refine x_iald (kc := c0 + 2) (t0 := 0) B G.1 (s_kC2 hc0) (s_cC2 hc0) rfl h1 dX2_owesUnknown_12 ?_
  refine x_imul B dX2_owesUnknown_13 ?_
  refine x_bipush (v := 10) B dX2_owesUnknown_14 (by decide) ?_
  refine x_idiv B dX2_owesUnknown_16 (by decide) ?_
  refine x_iadd B dX2_owesUnknown_17 ?_
  refine x_istore (lv' := [(4, .int ((a2 * (σ c0 1)) + ((a2 * (σ (c0 + 2) a3.toNatClampNeg)) / 10))), (0, .ref (ad c0)), (1, .int a1), (2, .int a2), (3, .int a3)]) B dX2_owesUnknown_18 (by decide) rfl ?_
  refine x_iload_n B dX2_owesUnknown_20 rfl 2 rfl ?_
  by_cases h2 : a1 = 1
  · replace hf := x_it h2 hf
    refine x_tableIn (tgt := 56) (off := 35) B dX2_owesUnknown_21 (by rw [h2]; decide) (by rw [h2]; decide) (by rw [h2]; rfl) (by decide) ?_
    refine x_iload B dX2_owesUnknown_56 0 rfl ?_
    obtain rfl := x_retP hf
    exact x_iret B hr dX2_owesUnknown_58
  · replace hf := x_if h2 hf
    by_cases h3 : a1 = 2
    · replace hf := x_it h3 hf
      refine x_tableIn (tgt := 59) (off := 38) B dX2_owesUnknown_21 (by rw [h3]; decide) (by rw [h3]; decide) (by rw [h3]; rfl) (by decide) ?_
      refine x_iload B dX2_owesUnknown_59 0 rfl ?_
      refine x_iconst (v := 2) B dX2_owesUnknown_61 (by decide) ?_
      refine x_idiv B dX2_owesUnknown_62 (by decide) ?_
      obtain rfl := x_retP hf
      exact x_iret B hr dX2_owesUnknown_63
    · replace hf := x_if h3 hf
      by_cases h4 : a1 = 3
      · replace hf := x_it h4 hf
        refine x_tableIn (tgt := 64) (off := 43) B dX2_owesUnknown_21 (by rw [h4]; decide) (by rw [h4]; decide) (by rw [h4]; rfl) (by decide) ?_
        refine x_iload B dX2_owesUnknown_64 0 rfl ?_
        refine x_aload_n B dX2_owesUnknown_66 rfl 1 rfl ?_
        refine x_get (v := .int (σ c0 1)) (kc := c0) (index := 15) B G.1 iX2_owesUnknown_cX2 rfl (s_kC hc0) (s_cC hc0) 1 (by decide) iX2_owesUnknown_0 rfl dX2_owesUnknown_67 ?_
        refine x_iconst (v := 0) B dX2_owesUnknown_70 (by decide) ?_
        refine x_iload_n B dX2_owesUnknown_71 rfl 3 rfl ?_
        refine x_bipush (v := 10) B dX2_owesUnknown_72 (by decide) ?_
        refine x_isub B dX2_owesUnknown_74 ?_
        refine x_mmax B iX2_owesUnknown_3 iX2_owesUnknown_4 iX2_owesUnknown_5 iX2_owesUnknown_6 ⟨Nat.le_of_ble_eq_true rfl, Nat.le_of_ble_eq_true rfl⟩ ⟨Nat.zero_le _, Nat.zero_le _⟩ dX2_owesUnknown_75 ?_
        refine x_imul B dX2_owesUnknown_78 ?_
        refine x_iadd B dX2_owesUnknown_79 ?_
        obtain rfl := x_retP hf
        exact x_iret B hr dX2_owesUnknown_80
      · replace hf := x_if h4 hf
        by_cases h5 : a1 = 4
        · replace hf := x_it h5 hf
          refine x_tableIn (tgt := 98) (off := 77) B dX2_owesUnknown_21 (by rw [h5]; decide) (by rw [h5]; decide) (by rw [h5]; rfl) (by decide) ?_
          refine x_iconst (v := 1) B dX2_owesUnknown_98 (by decide) ?_
          obtain rfl := x_retP hf
          exact x_iret B hr dX2_owesUnknown_99
        · replace hf := x_if h5 hf
          by_cases h6 : a1 = 5
          · replace hf := x_it h6 hf
            refine x_tableIn (tgt := 81) (off := 60) B dX2_owesUnknown_21 (by rw [h6]; decide) (by rw [h6]; decide) (by rw [h6]; rfl) (by decide) ?_
            refine x_aload_n B dX2_owesUnknown_81 rfl 1 rfl ?_
            refine x_get (v := .ref (ad (c0 + 2))) (kc := c0) (index := 35) B G.1 iX2_owesUnknown_cX2 rfl (s_kC hc0) (s_cC hc0) 7 (by decide) iX2_owesUnknown_2 rfl dX2_owesUnknown_82 ?_
            refine x_iload_n B dX2_owesUnknown_85 rfl 4 rfl ?_
            obtain ⟨h7, hf⟩ := x_gs hf
            refine x_iald (kc := c0 + 2) (t0 := 0) B G.1 (s_kC2 hc0) (s_cC2 hc0) rfl h7 dX2_owesUnknown_86 ?_
            refine x_iconst (v := 5) B dX2_owesUnknown_87 (by decide) ?_
            refine x_icmp_lt (tgt := 96) B dX2_owesUnknown_88 (by decide) (fun h8 => ?_) (fun h8 => ?_)
            · replace hf := x_it h8 hf
              refine x_iconst (v := 1) B dX2_owesUnknown_96 (by decide) ?_
              obtain rfl := x_retP hf
              exact x_iret B hr dX2_owesUnknown_97
            · replace hf := x_if h8 hf
              refine x_iload B dX2_owesUnknown_91 0 rfl ?_
              refine x_goto (tgt := 97) B dX2_owesUnknown_93 (by decide) ?_
              obtain rfl := x_retP hf
              exact x_iret B hr dX2_owesUnknown_97
          · replace hf := x_if h6 hf
            refine x_tableOut (tgt := 98) B dX2_owesUnknown_21 (by have g0 := lv_neT (a := 1) h2 rfl; have g1 := lv_neT (a := 2) h3 rfl; have g2 := lv_neT (a := 3) h4 rfl; have g3 := lv_neT (a := 4) h5 rfl; have g4 := lv_neT (a := 5) h6 rfl; omega) (by decide) ?_
            refine x_iconst (v := 1) B dX2_owesUnknown_98 (by decide) ?_
            obtain rfl := x_retP hf
            exact x_iret B hr dX2_owesUnknown_99
theorem hdX2_isKnown : yX2_isKnown.cls = RX2 ∧ yX2_isKnown.cls ≠ "java/lang/invoke/MethodHandle" ∧ yX2_isKnown.cls ≠ "java/lang/invoke/VarHandle" ∧ (parseMethodDescriptor yX2_isKnown.desc).map (fun d => d.parameters.length) = some 1 := by decide +kernel
theorem iX2_isKnown_0 : Cond.fieldLink RX2 25 "SignDuty$City" "known" "I" ∈ wsX2_isKnown := by decide +kernel
theorem iX2_isKnown_cX2 : ∀ w ∈ u_ws RX2 TX2 13, w ∈ wsX2_isKnown := by decide +kernel
set_option maxRecDepth 100000 in
set_option maxHeartbeats 4000000 in
theorem mX2_isKnown {σ : x_S} {c0 : Nat} {a1 : Int32} (hdis : x_dis s_N ad) (hc0 : s_iC c0) (hf : fX2_isKnown c0 a1 σ = some r0) : x_NI l yX2_isKnown wsX2_isKnown 0 D vwCl (s_tys cI cQ cC cZ) s_N (s_C cI cQ cC ad) ad (s_St aS) s_NW [.ref (ad c0), .int a1] σ r0 σ := by
  refine x_met (cc := cX2_isKnown) (own := RX2) (maxL := 2) (ret := (some .boolean)) (by decide +kernel) rfl rfl (Nat.le_of_ble_eq_true rfl) hdis (s_StOk aS) s_NwOk (fun p e s m args below meth c B G hr => ?_)
  unfold fX2_isKnown at hf
  refine x_sub (lv' := [(0, .ref (ad c0)), (1, .int a1)]) [0, 1] rfl ?_
  refine x_aload_n B dX2_isKnown_0 rfl 0 rfl ?_
  refine x_get (v := .int (σ c0 4)) (kc := c0) (index := 25) B G.1 iX2_isKnown_cX2 rfl (s_kC hc0) (s_cC hc0) 4 (by decide) iX2_isKnown_0 rfl dX2_isKnown_1 ?_
  refine x_iload_n B dX2_isKnown_4 rfl 1 rfl ?_
  refine x_ishr B dX2_isKnown_5 ?_
  refine x_iconst (v := 1) B dX2_isKnown_6 (by decide) ?_
  refine x_iand B dX2_isKnown_7 ?_
  refine x_iconst (v := 1) B dX2_isKnown_8 (by decide) ?_
  refine x_icmp_ne (tgt := 16) B dX2_isKnown_9 (by decide) (fun h1 => ?_) (fun h1 => ?_)
  · replace hf := x_if h1 hf
    refine x_iconst (v := 0) B dX2_isKnown_16 (by decide) ?_
    obtain rfl := x_retP hf
    exact x_zret B hr (by decide) dX2_isKnown_17
  · replace hf := x_it h1 hf
    refine x_iconst (v := 1) B dX2_isKnown_12 (by decide) ?_
    refine x_goto (tgt := 17) B dX2_isKnown_13 (by decide) ?_
    obtain rfl := x_retP hf
    exact x_zret B hr (by decide) dX2_isKnown_17
theorem hdX2_owesSuch : yX2_owesSuch.cls = RX2 ∧ yX2_owesSuch.cls ≠ "java/lang/invoke/MethodHandle" ∧ yX2_owesSuch.cls ≠ "java/lang/invoke/VarHandle" ∧ (parseMethodDescriptor yX2_owesSuch.desc).map (fun d => d.parameters.length) = some 3 := by decide +kernel
set_option maxRecDepth 100000 in
set_option maxHeartbeats 4000000 in
theorem mX2_owesSuch {σ : x_S} {c0 : Nat} {a1 : Int32} {a2 : Int32} {a3 : Int32} (hdis : x_dis s_N ad) (hc0 : s_iC c0) (hf : fX2_owesSuch c0 a1 a2 a3 σ = some r0) : x_NI l yX2_owesSuch wsX2_owesSuch 2 D vwCl (s_tys cI cQ cC cZ) s_N (s_C cI cQ cC ad) ad (s_St aS) s_NW [.ref (ad c0), .int a1, .int a2, .int a3] σ r0 σ := by
  refine x_met (cc := cX2_owesSuch) (own := RX2) (maxL := 5) (ret := (some .int)) (by decide +kernel) rfl rfl (Nat.le_of_ble_eq_true rfl) hdis (s_StOk aS) s_NwOk (fun p e s m args below meth c B G hr => ?_)
  unfold fX2_owesSuch at hf
  refine x_sub (lv' := [(0, .ref (ad c0)), (1, .int a1), (2, .int a2), (3, .int a3)]) [0, 1, 2, 3] rfl ?_
  refine x_aload_n B dX2_owesSuch_0 rfl 0 rfl ?_
  refine x_iload_n B dX2_owesSuch_1 rfl 1 rfl ?_
  refine x_iload_n B dX2_owesSuch_2 rfl 2 rfl ?_
  refine x_iload_n B dX2_owesSuch_3 rfl 3 rfl ?_
  obtain ⟨r2, e1, hf⟩ := x_ps hf
  refine x_callV (As := [.int a1, .int a2, .int a3]) (st := []) B G (mX2_owesUnknown (l := l) G.1.2.1 hc0 e1) (cwV 3 B.2.2.2.2.1 gX2_owesSuch_X2_owesUnknown rfl rfl rfl hdX2_owesUnknown (x_rm_ok (by omega) (by decide))) (s_kC hc0) (s_cC hc0) rfl rfl rfl (Nat.le_of_ble_eq_true rfl) ⟨Nat.zero_le _, Nat.zero_le _⟩ dX2_owesSuch_4 ?_
  refine x_istore (lv' := [(4, .int r2), (0, .ref (ad c0)), (1, .int a1), (2, .int a2), (3, .int a3)]) B dX2_owesSuch_7 (by decide) rfl ?_
  refine x_aload_n B dX2_owesSuch_9 rfl 1 rfl ?_
  refine x_iload_n B dX2_owesSuch_10 rfl 4 rfl ?_
  obtain ⟨r4, e3, hf⟩ := x_ps hf
  refine x_callV (As := [.int a3]) (st := []) B G (mX2_isKnown (l := l) G.1.2.1 hc0 e3) (cwV 1 B.2.2.2.2.1 gX2_owesSuch_X2_isKnown rfl rfl rfl hdX2_isKnown (x_rm_ok (by omega) (by decide))) (s_kC hc0) (s_cC hc0) rfl rfl rfl (Nat.le_of_ble_eq_true rfl) ⟨Nat.zero_le _, Nat.zero_le _⟩ dX2_owesSuch_11 ?_
  refine x_if_eq (tgt := 24) B dX2_owesSuch_14 (by decide) (fun h5 => ?_) (fun h5 => ?_)
  · replace hf := x_it h5 hf
    refine x_iload B dX2_owesSuch_24 0 rfl ?_
    obtain rfl := x_retP hf
    exact x_iret B hr dX2_owesSuch_26
  · replace hf := x_if h5 hf
    refine x_iload B dX2_owesSuch_17 0 rfl ?_
    refine x_iconst (v := 2) B dX2_owesSuch_19 (by decide) ?_
    refine x_idiv B dX2_owesSuch_20 (by decide) ?_
    refine x_goto (tgt := 26) B dX2_owesSuch_21 (by decide) ?_
    obtain rfl := x_retP hf
    exact x_iret B hr dX2_owesSuch_26
theorem hdX2_owes : yX2_owes.cls = RX2 ∧ yX2_owes.cls ≠ "java/lang/invoke/MethodHandle" ∧ yX2_owes.cls ≠ "java/lang/invoke/VarHandle" ∧ (parseMethodDescriptor yX2_owes.desc).map (fun d => d.parameters.length) = some 2 := by decide +kernel
theorem iX2_owes_0 : Cond.fieldLink RX2 38 "SignDuty$City" "kind" "[I" ∈ wsX2_owes := by decide +kernel
theorem iX2_owes_cX2 : ∀ w ∈ u_ws RX2 TX2 13, w ∈ wsX2_owes := by decide +kernel
theorem iX2_owes_2 : Cond.fieldLink RX2 41 "SignDuty$City" "inches" "[I" ∈ wsX2_owes := by decide +kernel
set_option maxRecDepth 100000 in
set_option maxHeartbeats 4000000 in
theorem mX2_owes {σ : x_S} {c0 : Nat} {a1 : Int32} {a2 : Int32} (hdis : x_dis s_N ad) (hc0 : s_iC c0) (hf : fX2_owes c0 a1 a2 σ = some r0) : x_NI l yX2_owes wsX2_owes 3 D vwCl (s_tys cI cQ cC cZ) s_N (s_C cI cQ cC ad) ad (s_St aS) s_NW [.ref (ad c0), .int a1, .int a2] σ r0 σ := by
  refine x_met (cc := cX2_owes) (own := RX2) (maxL := 3) (ret := (some .int)) (by decide +kernel) rfl rfl (Nat.le_of_ble_eq_true rfl) hdis (s_StOk aS) s_NwOk (fun p e s m args below meth c B G hr => ?_)
  unfold fX2_owes at hf
  refine x_sub (lv' := [(0, .ref (ad c0)), (1, .int a1), (2, .int a2)]) [0, 1, 2] rfl ?_
  refine x_aload_n B dX2_owes_0 rfl 0 rfl ?_
  refine x_aload_n B dX2_owes_1 rfl 0 rfl ?_
  refine x_get (v := .ref (ad (c0 + 3))) (kc := c0) (index := 38) B G.1 iX2_owes_cX2 rfl (s_kC hc0) (s_cC hc0) 8 (by decide) iX2_owes_0 rfl dX2_owes_2 ?_
  refine x_iload_n B dX2_owes_5 rfl 1 rfl ?_
  obtain ⟨h1, hf⟩ := x_gs hf
  refine x_iald (kc := c0 + 3) (t0 := 0) B G.1 (s_kC3 hc0) (s_cC3 hc0) rfl h1 dX2_owes_6 ?_
  refine x_aload_n B dX2_owes_7 rfl 0 rfl ?_
  refine x_get (v := .ref (ad (c0 + 4))) (kc := c0) (index := 41) B G.1 iX2_owes_cX2 rfl (s_kC hc0) (s_cC hc0) 9 (by decide) iX2_owes_2 rfl dX2_owes_8 ?_
  refine x_iload_n B dX2_owes_11 rfl 1 rfl ?_
  obtain ⟨h2, hf⟩ := x_gs hf
  refine x_iald (kc := c0 + 4) (t0 := 0) B G.1 (s_kC4 hc0) (s_cC4 hc0) rfl h2 dX2_owes_12 ?_
  refine x_iload_n B dX2_owes_13 rfl 2 rfl ?_
  obtain ⟨r4, e3, hf⟩ := x_ps hf
  refine x_callV (As := [.int (σ (c0 + 3) a1.toNatClampNeg), .int (σ (c0 + 4) a1.toNatClampNeg), .int a2]) (st := []) B G (mX2_owesSuch (l := l) G.1.2.1 hc0 e3) (cwV 3 B.2.2.2.2.1 gX2_owes_X2_owesSuch rfl rfl rfl hdX2_owesSuch (x_rm_ok (by omega) (by decide))) (s_kC hc0) (s_cC hc0) rfl rfl rfl (Nat.le_of_ble_eq_true rfl) ⟨Nat.zero_le _, Nat.zero_le _⟩ dX2_owes_14 ?_
  obtain rfl := x_retP hf
  exact x_iret B hr dX2_owes_17
theorem hdX2_turnKnown : yX2_turnKnown.cls = RX2 ∧ yX2_turnKnown.cls ≠ "java/lang/invoke/MethodHandle" ∧ yX2_turnKnown.cls ≠ "java/lang/invoke/VarHandle" ∧ (parseMethodDescriptor yX2_turnKnown.desc).map (fun d => d.parameters.length) = some 1 := by decide +kernel
theorem iX2_turnKnown_0 : Cond.fieldLink RX2 25 "SignDuty$City" "known" "I" ∈ wsX2_turnKnown := by decide +kernel
theorem iX2_turnKnown_cX2 : ∀ w ∈ u_ws RX2 TX2 13, w ∈ wsX2_turnKnown := by decide +kernel
set_option maxRecDepth 100000 in
set_option maxHeartbeats 4000000 in
theorem mX2_turnKnown {σ : x_S} {c0 : Nat} {a1 : Int32} (hdis : x_dis s_N ad) (hc0 : s_iC c0) (hf : fX2_turnKnown c0 a1 σ = some σ0) : x_NV l yX2_turnKnown wsX2_turnKnown 0 D vwCl (s_tys cI cQ cC cZ) s_N (s_C cI cQ cC ad) ad (s_St aS) s_NW [.ref (ad c0), .int a1] σ σ0 := by
  refine x_met (cc := cX2_turnKnown) (own := RX2) (maxL := 2) (ret := none) (by decide +kernel) rfl rfl (Nat.le_of_ble_eq_true rfl) hdis (s_StOk aS) s_NwOk (fun p e s m args below meth c B G hr => ?_)
  unfold fX2_turnKnown at hf
  refine x_sub (lv' := [(0, .ref (ad c0)), (1, .int a1)]) [0, 1] rfl ?_
  refine x_aload_n B dX2_turnKnown_0 rfl 0 rfl ?_
  refine x_dup B dX2_turnKnown_1 rfl ?_
  refine x_get (v := .int (σ c0 4)) (kc := c0) (index := 25) B G.1 iX2_turnKnown_cX2 rfl (s_kC hc0) (s_cC hc0) 4 (by decide) iX2_turnKnown_0 rfl dX2_turnKnown_2 ?_
  refine x_iconst (v := 1) B dX2_turnKnown_5 (by decide) ?_
  refine x_iload_n B dX2_turnKnown_6 rfl 1 rfl ?_
  refine x_ishl B dX2_turnKnown_7 ?_
  refine x_ixor B dX2_turnKnown_8 ?_
  obtain ⟨σ1, u2, hf⟩ := x_ws hf
  refine x_put (v := ((σ c0 4) ^^^ (1 <<< (a1 &&& 31)))) (ty := .int) (kc := c0) (index := 25) B G.1 iX2_turnKnown_cX2 tyX2 tyX2_ok nmX2 rfl (s_kC hc0) (s_cC hc0) 4 (by decide) iX2_turnKnown_0 rfl rfl rfl rfl (Nat.le_of_ble_eq_true rfl) (s_w2_4 _ _) dX2_turnKnown_9 ?_
  refine x_nm u2 ?_
  obtain rfl := x_retV hf
  exact x_vret B hr dX2_turnKnown_12
theorem hdX2_streetsThatSee : yX2_streetsThatSee.cls = RX2 ∧ yX2_streetsThatSee.cls ≠ "java/lang/invoke/MethodHandle" ∧ yX2_streetsThatSee.cls ≠ "java/lang/invoke/VarHandle" ∧ (parseMethodDescriptor yX2_streetsThatSee.desc).map (fun d => d.parameters.length) = some 1 := by decide +kernel
theorem iX2_streetsThatSee_0 : Cond.fieldLink RX2 22 "SignDuty$City" "streets" "I" ∈ wsX2_streetsThatSee := by decide +kernel
theorem iX2_streetsThatSee_cX2 : ∀ w ∈ u_ws RX2 TX2 13, w ∈ wsX2_streetsThatSee := by decide +kernel
set_option maxRecDepth 100000 in
set_option maxHeartbeats 4000000 in
theorem qX2_streetsThatSee_4 {σ : x_S} {c0 : Nat} {x1 : Int32} {x2 : Int32} {x3 : Int32} {K4 : Int32 → Int32 → Option Int32} (B : x_B p s m args meth c cX2_streetsThatSee 4 wsX2_streetsThatSee RX2) (G : x_H s D vwCl (s_tys cI cQ cC cZ) s_N ad (x_A s_N ad) (s_St aS) s_NW) (hr : meth.sig.returnType = (some .int)) (hK4 : ∀ (x2 : Int32) (x3 : Int32), K4 x2 x3 = some r0 → x_J p l e (x_rm 1) s m args below meth c 0 0 (MQ below (x_Qi D vwCl s_N (s_C cI cQ cC ad) ad r0 σ) args s 0 0 (x_A s_N ad)) (x_A s_N ad) 4 (x_I D vwCl s_N (s_C cI cQ cC ad) ad σ) [(0, .ref (ad c0)), (1, .int x1), (2, .int x2), (3, .int x3)] [] 4) (hc0 : s_iC c0) (hf : gX2_streetsThatSee_4  c0 x1 K4 x2 x3 σ = some r0) : x_J p l e (x_rm 1) s m args below meth c 0 0 (MQ below (x_Qi D vwCl s_N (s_C cI cQ cC ad) ad r0 σ) args s 0 0 (x_A s_N ad)) (x_A s_N ad) 4 (x_I D vwCl s_N (s_C cI cQ cC ad) ad σ) [(0, .ref (ad c0)), (1, .int x1), (2, .int x2), (3, .int x3)] [] 4 := by
  unfold gX2_streetsThatSee_4 at hf
  refine x_iload_n B dX2_streetsThatSee_4 rfl 3 rfl ?_
  refine x_aload_n B dX2_streetsThatSee_5 rfl 0 rfl ?_
  refine x_get (v := .int (σ c0 3)) (kc := c0) (index := 22) B G.1 iX2_streetsThatSee_cX2 rfl (s_kC hc0) (s_cC hc0) 3 (by decide) iX2_streetsThatSee_0 rfl dX2_streetsThatSee_6 ?_
  refine x_icmp_ge (tgt := 37) B dX2_streetsThatSee_9 (by decide) (fun h1 => ?_) (fun h1 => ?_)
  · replace hf := x_it h1 hf
    refine x_iload_n B dX2_streetsThatSee_37 rfl 2 rfl ?_
    obtain rfl := x_retP hf
    exact x_iret B hr dX2_streetsThatSee_38
  · replace hf := x_if h1 hf
    refine x_iload_n B dX2_streetsThatSee_12 rfl 2 rfl ?_
    refine x_aload_n B dX2_streetsThatSee_13 rfl 0 rfl ?_
    refine x_iload_n B dX2_streetsThatSee_14 rfl 1 rfl ?_
    refine x_iload_n B dX2_streetsThatSee_15 rfl 3 rfl ?_
    obtain ⟨r3, e2, hf⟩ := x_ps hf
    refine x_callV (As := [.int x1, .int x3]) (st := [.int x2]) B G (mX2_isSeen (l := l) G.1.2.1 hc0 e2) (cwV 2 B.2.2.2.2.1 gX2_streetsThatSee_X2_isSeen rfl rfl rfl hdX2_isSeen (x_rm_ok (by omega) (by decide))) (s_kC hc0) (s_cC hc0) rfl rfl rfl (Nat.le_of_ble_eq_true rfl) ⟨Nat.zero_le _, Nat.zero_le _⟩ dX2_streetsThatSee_16 ?_
    refine x_if_eq (tgt := 28) B dX2_streetsThatSee_19 (by decide) (fun h4 => ?_) (fun h4 => ?_)
    · replace hf := x_it h4 hf
      refine x_iconst (v := 0) B dX2_streetsThatSee_28 (by decide) ?_
      refine x_ior B dX2_streetsThatSee_29 ?_
      refine x_istore_n (lv' := [(2, .int (x2 ||| 0)), (0, .ref (ad c0)), (1, .int x1), (3, .int x3)]) B dX2_streetsThatSee_30 rfl (by decide) rfl ?_
      refine x_iinc (v := (x3 + 1)) (lv' := [(3, .int (x3 + 1)), (2, .int (x2 ||| 0)), (0, .ref (ad c0)), (1, .int x1)]) B dX2_streetsThatSee_31 3 rfl rfl (by decide) rfl ?_
      refine x_goto (tgt := 4) B dX2_streetsThatSee_34 (by decide) ?_
      refine x_sub [2, 3, 1, 0] rfl ?_
      exact hK4 _ _ hf
    · replace hf := x_if h4 hf
      refine x_iconst (v := 1) B dX2_streetsThatSee_22 (by decide) ?_
      refine x_iload_n B dX2_streetsThatSee_23 rfl 3 rfl ?_
      refine x_ishl B dX2_streetsThatSee_24 ?_
      refine x_goto (tgt := 29) B dX2_streetsThatSee_25 (by decide) ?_
      refine x_ior B dX2_streetsThatSee_29 ?_
      refine x_istore_n (lv' := [(2, .int (x2 ||| (1 <<< (x3 &&& 31)))), (0, .ref (ad c0)), (1, .int x1), (3, .int x3)]) B dX2_streetsThatSee_30 rfl (by decide) rfl ?_
      refine x_iinc (v := (x3 + 1)) (lv' := [(3, .int (x3 + 1)), (2, .int (x2 ||| (1 <<< (x3 &&& 31)))), (0, .ref (ad c0)), (1, .int x1)]) B dX2_streetsThatSee_31 3 rfl rfl (by decide) rfl ?_
      refine x_goto (tgt := 4) B dX2_streetsThatSee_34 (by decide) ?_
      refine x_sub [2, 3, 1, 0] rfl ?_
      exact hK4 _ _ hf
set_option maxRecDepth 100000 in
set_option maxHeartbeats 4000000 in
theorem kX2_streetsThatSee_4 {σ : x_S} {c0 : Nat} {x1 : Int32} {x2 : Int32} {x3 : Int32} (B : x_B p s m args meth c cX2_streetsThatSee 4 wsX2_streetsThatSee RX2) (G : x_H s D vwCl (s_tys cI cQ cC cZ) s_N ad (x_A s_N ad) (s_St aS) s_NW) (hr : meth.sig.returnType = (some .int)) (hc0 : s_iC c0) (hf : bX2_streetsThatSee_4  c0 x1 x2 x3 σ = some r0) : x_J p l e (x_rm 1) s m args below meth c 0 0 (MQ below (x_Qi D vwCl s_N (s_C cI cQ cC ad) ad r0 σ) args s 0 0 (x_A s_N ad)) (x_A s_N ad) 4 (x_I D vwCl s_N (s_C cI cQ cC ad) ad σ) [(0, .ref (ad c0)), (1, .int x1), (2, .int x2), (3, .int x3)] [] 4 := by
  have key : ∀ (n : Nat) (x2 : Int32) (x3 : Int32), x_fx (α := Int32 → Int32 → Option Int32) (fun _ _ => none) (fun K => fun x2 x3 => gX2_streetsThatSee_4  c0 x1 K x2 x3 σ) n x2 x3 = some r0 → x_J p l e (x_rm 1) s m args below meth c 0 0 (MQ below (x_Qi D vwCl s_N (s_C cI cQ cC ad) ad r0 σ) args s 0 0 (x_A s_N ad)) (x_A s_N ad) 4 (x_I D vwCl s_N (s_C cI cQ cC ad) ad σ) [(0, .ref (ad c0)), (1, .int x1), (2, .int x2), (3, .int x3)] [] 4 := by
    intro n
    induction n with
    | zero => intro x2 x3 h; cases h
    | succ n ih => intro x2 x3 h; exact qX2_streetsThatSee_4 B G hr  ih hc0 h
  exact key x_F x2 x3 hf
set_option maxRecDepth 100000 in
set_option maxHeartbeats 4000000 in
theorem mX2_streetsThatSee {σ : x_S} {c0 : Nat} {a1 : Int32} (hdis : x_dis s_N ad) (hc0 : s_iC c0) (hf : fX2_streetsThatSee c0 a1 σ = some r0) : x_NI l yX2_streetsThatSee wsX2_streetsThatSee 1 D vwCl (s_tys cI cQ cC cZ) s_N (s_C cI cQ cC ad) ad (s_St aS) s_NW [.ref (ad c0), .int a1] σ r0 σ := by
  refine x_met (cc := cX2_streetsThatSee) (own := RX2) (maxL := 4) (ret := (some .int)) (by decide +kernel) rfl rfl (Nat.le_of_ble_eq_true rfl) hdis (s_StOk aS) s_NwOk (fun p e s m args below meth c B G hr => ?_)
  unfold fX2_streetsThatSee at hf
  refine x_sub (lv' := [(0, .ref (ad c0)), (1, .int a1)]) [0, 1] rfl ?_
  refine x_iconst (v := 0) B dX2_streetsThatSee_0 (by decide) ?_
  refine x_istore_n (lv' := [(2, .int 0), (0, .ref (ad c0)), (1, .int a1)]) B dX2_streetsThatSee_1 rfl (by decide) rfl ?_
  refine x_iconst (v := 0) B dX2_streetsThatSee_2 (by decide) ?_
  refine x_istore_n (lv' := [(3, .int 0), (2, .int 0), (0, .ref (ad c0)), (1, .int a1)]) B dX2_streetsThatSee_3 rfl (by decide) rfl ?_
  refine x_sub [2, 3, 1, 0] rfl ?_
  exact kX2_streetsThatSee_4 B G hr hc0 hf
theorem hdX2_gesturesSeenIn : yX2_gesturesSeenIn.cls = RX2 ∧ yX2_gesturesSeenIn.cls ≠ "java/lang/invoke/MethodHandle" ∧ yX2_gesturesSeenIn.cls ≠ "java/lang/invoke/VarHandle" ∧ (parseMethodDescriptor yX2_gesturesSeenIn.desc).map (fun d => d.parameters.length) = some 1 := by decide +kernel
theorem iX2_gesturesSeenIn_0 : Cond.fieldLink RX2 28 "SignDuty$City" "gestures" "I" ∈ wsX2_gesturesSeenIn := by decide +kernel
theorem iX2_gesturesSeenIn_cX2 : ∀ w ∈ u_ws RX2 TX2 13, w ∈ wsX2_gesturesSeenIn := by decide +kernel
set_option maxRecDepth 100000 in
set_option maxHeartbeats 4000000 in
theorem qX2_gesturesSeenIn_4 {σ : x_S} {c0 : Nat} {x1 : Int32} {x2 : Int32} {x3 : Int32} {K4 : Int32 → Int32 → Option Int32} (B : x_B p s m args meth c cX2_gesturesSeenIn 4 wsX2_gesturesSeenIn RX2) (G : x_H s D vwCl (s_tys cI cQ cC cZ) s_N ad (x_A s_N ad) (s_St aS) s_NW) (hr : meth.sig.returnType = (some .int)) (hK4 : ∀ (x2 : Int32) (x3 : Int32), K4 x2 x3 = some r0 → x_J p l e (x_rm 1) s m args below meth c 0 0 (MQ below (x_Qi D vwCl s_N (s_C cI cQ cC ad) ad r0 σ) args s 0 0 (x_A s_N ad)) (x_A s_N ad) 4 (x_I D vwCl s_N (s_C cI cQ cC ad) ad σ) [(0, .ref (ad c0)), (1, .int x1), (2, .int x2), (3, .int x3)] [] 4) (hc0 : s_iC c0) (hf : gX2_gesturesSeenIn_4  c0 x1 K4 x2 x3 σ = some r0) : x_J p l e (x_rm 1) s m args below meth c 0 0 (MQ below (x_Qi D vwCl s_N (s_C cI cQ cC ad) ad r0 σ) args s 0 0 (x_A s_N ad)) (x_A s_N ad) 4 (x_I D vwCl s_N (s_C cI cQ cC ad) ad σ) [(0, .ref (ad c0)), (1, .int x1), (2, .int x2), (3, .int x3)] [] 4 := by
  unfold gX2_gesturesSeenIn_4 at hf
  refine x_iload_n B dX2_gesturesSeenIn_4 rfl 3 rfl ?_
  refine x_aload_n B dX2_gesturesSeenIn_5 rfl 0 rfl ?_
  refine x_get (v := .int (σ c0 5)) (kc := c0) (index := 28) B G.1 iX2_gesturesSeenIn_cX2 rfl (s_kC hc0) (s_cC hc0) 5 (by decide) iX2_gesturesSeenIn_0 rfl dX2_gesturesSeenIn_6 ?_
  refine x_icmp_ge (tgt := 37) B dX2_gesturesSeenIn_9 (by decide) (fun h1 => ?_) (fun h1 => ?_)
  · replace hf := x_it h1 hf
    refine x_iload_n B dX2_gesturesSeenIn_37 rfl 2 rfl ?_
    obtain rfl := x_retP hf
    exact x_iret B hr dX2_gesturesSeenIn_38
  · replace hf := x_if h1 hf
    refine x_iload_n B dX2_gesturesSeenIn_12 rfl 2 rfl ?_
    refine x_aload_n B dX2_gesturesSeenIn_13 rfl 0 rfl ?_
    refine x_iload_n B dX2_gesturesSeenIn_14 rfl 3 rfl ?_
    refine x_iload_n B dX2_gesturesSeenIn_15 rfl 1 rfl ?_
    obtain ⟨r3, e2, hf⟩ := x_ps hf
    refine x_callV (As := [.int x3, .int x1]) (st := [.int x2]) B G (mX2_isSeen (l := l) G.1.2.1 hc0 e2) (cwV 2 B.2.2.2.2.1 gX2_gesturesSeenIn_X2_isSeen rfl rfl rfl hdX2_isSeen (x_rm_ok (by omega) (by decide))) (s_kC hc0) (s_cC hc0) rfl rfl rfl (Nat.le_of_ble_eq_true rfl) ⟨Nat.zero_le _, Nat.zero_le _⟩ dX2_gesturesSeenIn_16 ?_
    refine x_if_eq (tgt := 28) B dX2_gesturesSeenIn_19 (by decide) (fun h4 => ?_) (fun h4 => ?_)
    · replace hf := x_it h4 hf
      refine x_iconst (v := 0) B dX2_gesturesSeenIn_28 (by decide) ?_
      refine x_ior B dX2_gesturesSeenIn_29 ?_
      refine x_istore_n (lv' := [(2, .int (x2 ||| 0)), (0, .ref (ad c0)), (1, .int x1), (3, .int x3)]) B dX2_gesturesSeenIn_30 rfl (by decide) rfl ?_
      refine x_iinc (v := (x3 + 1)) (lv' := [(3, .int (x3 + 1)), (2, .int (x2 ||| 0)), (0, .ref (ad c0)), (1, .int x1)]) B dX2_gesturesSeenIn_31 3 rfl rfl (by decide) rfl ?_
      refine x_goto (tgt := 4) B dX2_gesturesSeenIn_34 (by decide) ?_
      refine x_sub [2, 3, 1, 0] rfl ?_
      exact hK4 _ _ hf
    · replace hf := x_if h4 hf
      refine x_iconst (v := 1) B dX2_gesturesSeenIn_22 (by decide) ?_
      refine x_iload_n B dX2_gesturesSeenIn_23 rfl 3 rfl ?_
      refine x_ishl B dX2_gesturesSeenIn_24 ?_
      refine x_goto (tgt := 29) B dX2_gesturesSeenIn_25 (by decide) ?_
      refine x_ior B dX2_gesturesSeenIn_29 ?_
      refine x_istore_n (lv' := [(2, .int (x2 ||| (1 <<< (x3 &&& 31)))), (0, .ref (ad c0)), (1, .int x1), (3, .int x3)]) B dX2_gesturesSeenIn_30 rfl (by decide) rfl ?_
      refine x_iinc (v := (x3 + 1)) (lv' := [(3, .int (x3 + 1)), (2, .int (x2 ||| (1 <<< (x3 &&& 31)))), (0, .ref (ad c0)), (1, .int x1)]) B dX2_gesturesSeenIn_31 3 rfl rfl (by decide) rfl ?_
      refine x_goto (tgt := 4) B dX2_gesturesSeenIn_34 (by decide) ?_
      refine x_sub [2, 3, 1, 0] rfl ?_
      exact hK4 _ _ hf
set_option maxRecDepth 100000 in
set_option maxHeartbeats 4000000 in
theorem kX2_gesturesSeenIn_4 {σ : x_S} {c0 : Nat} {x1 : Int32} {x2 : Int32} {x3 : Int32} (B : x_B p s m args meth c cX2_gesturesSeenIn 4 wsX2_gesturesSeenIn RX2) (G : x_H s D vwCl (s_tys cI cQ cC cZ) s_N ad (x_A s_N ad) (s_St aS) s_NW) (hr : meth.sig.returnType = (some .int)) (hc0 : s_iC c0) (hf : bX2_gesturesSeenIn_4  c0 x1 x2 x3 σ = some r0) : x_J p l e (x_rm 1) s m args below meth c 0 0 (MQ below (x_Qi D vwCl s_N (s_C cI cQ cC ad) ad r0 σ) args s 0 0 (x_A s_N ad)) (x_A s_N ad) 4 (x_I D vwCl s_N (s_C cI cQ cC ad) ad σ) [(0, .ref (ad c0)), (1, .int x1), (2, .int x2), (3, .int x3)] [] 4 := by
  have key : ∀ (n : Nat) (x2 : Int32) (x3 : Int32), x_fx (α := Int32 → Int32 → Option Int32) (fun _ _ => none) (fun K => fun x2 x3 => gX2_gesturesSeenIn_4  c0 x1 K x2 x3 σ) n x2 x3 = some r0 → x_J p l e (x_rm 1) s m args below meth c 0 0 (MQ below (x_Qi D vwCl s_N (s_C cI cQ cC ad) ad r0 σ) args s 0 0 (x_A s_N ad)) (x_A s_N ad) 4 (x_I D vwCl s_N (s_C cI cQ cC ad) ad σ) [(0, .ref (ad c0)), (1, .int x1), (2, .int x2), (3, .int x3)] [] 4 := by
    intro n
    induction n with
    | zero => intro x2 x3 h; cases h
    | succ n ih => intro x2 x3 h; exact qX2_gesturesSeenIn_4 B G hr  ih hc0 h
  exact key x_F x2 x3 hf
set_option maxRecDepth 100000 in
set_option maxHeartbeats 4000000 in
theorem mX2_gesturesSeenIn {σ : x_S} {c0 : Nat} {a1 : Int32} (hdis : x_dis s_N ad) (hc0 : s_iC c0) (hf : fX2_gesturesSeenIn c0 a1 σ = some r0) : x_NI l yX2_gesturesSeenIn wsX2_gesturesSeenIn 1 D vwCl (s_tys cI cQ cC cZ) s_N (s_C cI cQ cC ad) ad (s_St aS) s_NW [.ref (ad c0), .int a1] σ r0 σ := by
  refine x_met (cc := cX2_gesturesSeenIn) (own := RX2) (maxL := 4) (ret := (some .int)) (by decide +kernel) rfl rfl (Nat.le_of_ble_eq_true rfl) hdis (s_StOk aS) s_NwOk (fun p e s m args below meth c B G hr => ?_)
  unfold fX2_gesturesSeenIn at hf
  refine x_sub (lv' := [(0, .ref (ad c0)), (1, .int a1)]) [0, 1] rfl ?_
  refine x_iconst (v := 0) B dX2_gesturesSeenIn_0 (by decide) ?_
  refine x_istore_n (lv' := [(2, .int 0), (0, .ref (ad c0)), (1, .int a1)]) B dX2_gesturesSeenIn_1 rfl (by decide) rfl ?_
  refine x_iconst (v := 0) B dX2_gesturesSeenIn_2 (by decide) ?_
  refine x_istore_n (lv' := [(3, .int 0), (2, .int 0), (0, .ref (ad c0)), (1, .int a1)]) B dX2_gesturesSeenIn_3 rfl (by decide) rfl ?_
  refine x_sub [2, 3, 1, 0] rfl ?_
  exact kX2_gesturesSeenIn_4 B G hr hc0 hf
theorem hdX2_tells : yX2_tells.cls = RX2 ∧ yX2_tells.cls ≠ "java/lang/invoke/MethodHandle" ∧ yX2_tells.cls ≠ "java/lang/invoke/VarHandle" ∧ (parseMethodDescriptor yX2_tells.desc).map (fun d => d.parameters.length) = some 3 := by decide +kernel
theorem iX2_tells_0 : Cond.fieldLink RX2 44 "SignDuty$City" "means" "[I" ∈ wsX2_tells := by decide +kernel
theorem iX2_tells_cX2 : ∀ w ∈ u_ws RX2 TX2 13, w ∈ wsX2_tells := by decide +kernel
set_option maxRecDepth 100000 in
set_option maxHeartbeats 4000000 in
theorem mX2_tells {σ : x_S} {c0 : Nat} {a1 : Int32} {a2 : Int32} {a3 : Int32} (hdis : x_dis s_N ad) (hc0 : s_iC c0) (hf : fX2_tells c0 a1 a2 a3 σ = some r0) : x_NI l yX2_tells wsX2_tells 1 D vwCl (s_tys cI cQ cC cZ) s_N (s_C cI cQ cC ad) ad (s_St aS) s_NW [.ref (ad c0), .int a1, .int a2, .int a3] σ r0 σ := by
  refine x_met (cc := cX2_tells) (own := RX2) (maxL := 4) (ret := (some .boolean)) (by decide +kernel) rfl rfl (Nat.le_of_ble_eq_true rfl) hdis (s_StOk aS) s_NwOk (fun p e s m args below meth c B G hr => ?_)
  unfold fX2_tells at hf
  refine x_sub (lv' := [(0, .ref (ad c0)), (1, .int a1), (2, .int a2), (3, .int a3)]) [0, 1, 2, 3] rfl ?_
  refine x_aload_n B dX2_tells_0 rfl 0 rfl ?_
  refine x_get (v := .ref (ad (c0 + 5))) (kc := c0) (index := 44) B G.1 iX2_tells_cX2 rfl (s_kC hc0) (s_cC hc0) 10 (by decide) iX2_tells_0 rfl dX2_tells_1 ?_
  refine x_iload_n B dX2_tells_4 rfl 1 rfl ?_
  obtain ⟨h1, hf⟩ := x_gs hf
  refine x_iald (kc := c0 + 5) (t0 := 0) B G.1 (s_kC5 hc0) (s_cC5 hc0) rfl h1 dX2_tells_5 ?_
  refine x_iload_n B dX2_tells_6 rfl 2 rfl ?_
  refine x_icmp_ne (tgt := 23) B dX2_tells_7 (by decide) (fun h2 => ?_) (fun h2 => ?_)
  · replace hf := x_if h2 hf
    refine x_iconst (v := 0) B dX2_tells_23 (by decide) ?_
    obtain rfl := x_retP hf
    exact x_zret B hr (by decide) dX2_tells_24
  · replace hf := x_it h2 hf
    refine x_aload_n B dX2_tells_10 rfl 0 rfl ?_
    refine x_iload_n B dX2_tells_11 rfl 1 rfl ?_
    refine x_iload_n B dX2_tells_12 rfl 3 rfl ?_
    obtain ⟨r4, e3, hf⟩ := x_ps hf
    refine x_callV (As := [.int a1, .int a3]) (st := []) B G (mX2_isSeen (l := l) G.1.2.1 hc0 e3) (cwV 2 B.2.2.2.2.1 gX2_tells_X2_isSeen rfl rfl rfl hdX2_isSeen (x_rm_ok (by omega) (by decide))) (s_kC hc0) (s_cC hc0) rfl rfl rfl (Nat.le_of_ble_eq_true rfl) ⟨Nat.zero_le _, Nat.zero_le _⟩ dX2_tells_13 ?_
    refine x_if_eq (tgt := 23) B dX2_tells_16 (by decide) (fun h5 => ?_) (fun h5 => ?_)
    · replace hf := x_it h5 hf
      refine x_iconst (v := 0) B dX2_tells_23 (by decide) ?_
      obtain rfl := x_retP hf
      exact x_zret B hr (by decide) dX2_tells_24
    · replace hf := x_if h5 hf
      refine x_iconst (v := 1) B dX2_tells_19 (by decide) ?_
      refine x_goto (tgt := 24) B dX2_tells_20 (by decide) ?_
      obtain rfl := x_retP hf
      exact x_zret B hr (by decide) dX2_tells_24
theorem hdX2_leastTime : yX2_leastTime.cls = RX2 ∧ yX2_leastTime.cls ≠ "java/lang/invoke/MethodHandle" ∧ yX2_leastTime.cls ≠ "java/lang/invoke/VarHandle" ∧ (parseMethodDescriptor yX2_leastTime.desc).map (fun d => d.parameters.length) = some 2 := by decide +kernel
theorem iX2_leastTime_0 : Cond.constant RX2 85 (-1000000) ∈ wsX2_leastTime := by decide +kernel
theorem iX2_leastTime_1 : Cond.fieldLink RX2 28 "SignDuty$City" "gestures" "I" ∈ wsX2_leastTime := by decide +kernel
theorem iX2_leastTime_cX2 : ∀ w ∈ u_ws RX2 TX2 13, w ∈ wsX2_leastTime := by decide +kernel
theorem iX2_leastTime_3 : Cond.fieldLink RX2 47 "SignDuty$City" "takes" "[I" ∈ wsX2_leastTime := by decide +kernel
set_option maxRecDepth 100000 in
set_option maxHeartbeats 4000000 in
theorem kX2_leastTime_43 {σ : x_S} {K6 : Int32 → Int32 → Option Int32} {c0 : Nat} {x1 : Int32} {x2 : Int32} {x4 : Int32} (B : x_B p s m args meth c cX2_leastTime 5 wsX2_leastTime RX2) (G : x_H s D vwCl (s_tys cI cQ cC cZ) s_N ad (x_A s_N ad) (s_St aS) s_NW) (hr : meth.sig.returnType = (some .int)) (hK6 : ∀ (x3 : Int32) (x4 : Int32), K6 x3 x4 = some r0 → x_J p l e (x_rm 2) s m args below meth c 0 0 (MQ below (x_Qi D vwCl s_N (s_C cI cQ cC ad) ad r0 σ) args s 0 0 (x_A s_N ad)) (x_A s_N ad) 5 (x_I D vwCl s_N (s_C cI cQ cC ad) ad σ) [(0, .ref (ad c0)), (1, .int x1), (2, .int x2), (3, .int x3), (4, .int x4)] [] 6) (hc0 : s_iC c0) (hf : bX2_leastTime_43 K6 c0 x1 x2 x4 σ = some r0) : x_J p l e (x_rm 2) s m args below meth c 0 0 (MQ below (x_Qi D vwCl s_N (s_C cI cQ cC ad) ad r0 σ) args s 0 0 (x_A s_N ad)) (x_A s_N ad) 5 (x_I D vwCl s_N (s_C cI cQ cC ad) ad σ) [(0, .ref (ad c0)), (1, .int x1), (2, .int x2), (4, .int x4)] [] 43 := by
  unfold bX2_leastTime_43 at hf
  refine x_aload_n B dX2_leastTime_43 rfl 0 rfl ?_
  refine x_get (v := .ref (ad (c0 + 6))) (kc := c0) (index := 47) B G.1 iX2_leastTime_cX2 rfl (s_kC hc0) (s_cC hc0) 11 (by decide) iX2_leastTime_3 rfl dX2_leastTime_44 ?_
  refine x_iload B dX2_leastTime_47 3 rfl ?_
  obtain ⟨h1, hf⟩ := x_gs hf
  refine x_iald (kc := c0 + 6) (t0 := 0) B G.1 (s_kC6 hc0) (s_cC6 hc0) rfl h1 dX2_leastTime_49 ?_
  refine x_istore_n (lv' := [(3, .int (σ (c0 + 6) x4.toNatClampNeg)), (0, .ref (ad c0)), (1, .int x1), (2, .int x2), (4, .int x4)]) B dX2_leastTime_50 rfl (by decide) rfl ?_
  refine x_iinc (v := (x4 + 1)) (lv' := [(4, .int (x4 + 1)), (3, .int (σ (c0 + 6) x4.toNatClampNeg)), (0, .ref (ad c0)), (1, .int x1), (2, .int x2)]) B dX2_leastTime_51 4 rfl rfl (by decide) rfl ?_
  refine x_goto (tgt := 6) B dX2_leastTime_54 (by decide) ?_
  refine x_sub [2, 3, 4, 1, 0] rfl ?_
  exact hK6 _ _ hf
set_option maxRecDepth 100000 in
set_option maxHeartbeats 4000000 in
theorem qX2_leastTime_6 {σ : x_S} {c0 : Nat} {x1 : Int32} {x2 : Int32} {x3 : Int32} {x4 : Int32} {K6 : Int32 → Int32 → Option Int32} (B : x_B p s m args meth c cX2_leastTime 5 wsX2_leastTime RX2) (G : x_H s D vwCl (s_tys cI cQ cC cZ) s_N ad (x_A s_N ad) (s_St aS) s_NW) (hr : meth.sig.returnType = (some .int)) (hK6 : ∀ (x3 : Int32) (x4 : Int32), K6 x3 x4 = some r0 → x_J p l e (x_rm 2) s m args below meth c 0 0 (MQ below (x_Qi D vwCl s_N (s_C cI cQ cC ad) ad r0 σ) args s 0 0 (x_A s_N ad)) (x_A s_N ad) 5 (x_I D vwCl s_N (s_C cI cQ cC ad) ad σ) [(0, .ref (ad c0)), (1, .int x1), (2, .int x2), (3, .int x3), (4, .int x4)] [] 6) (hc0 : s_iC c0) (hf : gX2_leastTime_6  c0 x1 x2 K6 x3 x4 σ = some r0) : x_J p l e (x_rm 2) s m args below meth c 0 0 (MQ below (x_Qi D vwCl s_N (s_C cI cQ cC ad) ad r0 σ) args s 0 0 (x_A s_N ad)) (x_A s_N ad) 5 (x_I D vwCl s_N (s_C cI cQ cC ad) ad σ) [(0, .ref (ad c0)), (1, .int x1), (2, .int x2), (3, .int x3), (4, .int x4)] [] 6 := by
  unfold gX2_leastTime_6 at hf
  refine x_iload B dX2_leastTime_6 4 rfl ?_
  refine x_aload_n B dX2_leastTime_8 rfl 0 rfl ?_
  refine x_get (v := .int (σ c0 5)) (kc := c0) (index := 28) B G.1 iX2_leastTime_cX2 rfl (s_kC hc0) (s_cC hc0) 5 (by decide) iX2_leastTime_1 rfl dX2_leastTime_9 ?_
  refine x_icmp_ge (tgt := 57) B dX2_leastTime_12 (by decide) (fun h1 => ?_) (fun h1 => ?_)
  · replace hf := x_it h1 hf
    refine x_iload_n B dX2_leastTime_57 rfl 3 rfl ?_
    obtain rfl := x_retP hf
    exact x_iret B hr dX2_leastTime_58
  · replace hf := x_if h1 hf
    refine x_aload_n B dX2_leastTime_15 rfl 0 rfl ?_
    refine x_iload B dX2_leastTime_16 4 rfl ?_
    refine x_iload_n B dX2_leastTime_18 rfl 1 rfl ?_
    refine x_iload_n B dX2_leastTime_19 rfl 2 rfl ?_
    obtain ⟨r3, e2, hf⟩ := x_ps hf
    refine x_callV (As := [.int x4, .int x1, .int x2]) (st := []) B G (mX2_tells (l := l) G.1.2.1 hc0 e2) (cwV 3 B.2.2.2.2.1 gX2_leastTime_X2_tells rfl rfl rfl hdX2_tells (x_rm_ok (by omega) (by decide))) (s_kC hc0) (s_cC hc0) rfl rfl rfl (Nat.le_of_ble_eq_true rfl) ⟨Nat.zero_le _, Nat.zero_le _⟩ dX2_leastTime_20 ?_
    refine x_if_eq (tgt := 51) B dX2_leastTime_23 (by decide) (fun h4 => ?_) (fun h4 => ?_)
    · replace hf := x_it h4 hf
      refine x_iinc (v := (x4 + 1)) (lv' := [(4, .int (x4 + 1)), (0, .ref (ad c0)), (1, .int x1), (2, .int x2), (3, .int x3)]) B dX2_leastTime_51 4 rfl rfl (by decide) rfl ?_
      refine x_goto (tgt := 6) B dX2_leastTime_54 (by decide) ?_
      refine x_sub [1, 2, 3, 4, 0] rfl ?_
      exact hK6 _ _ hf
    · replace hf := x_if h4 hf
      refine x_iload_n B dX2_leastTime_26 rfl 3 rfl ?_
      refine x_ldc (v := (-1000000)) B iX2_leastTime_0 dX2_leastTime_27 ?_
      refine x_icmp_eq (tgt := 43) B dX2_leastTime_29 (by decide) (fun h5 => ?_) (fun h5 => ?_)
      · replace hf := x_it h5 hf
        refine x_sub [0, 1, 2, 4] rfl ?_
        exact kX2_leastTime_43 B G hr hK6 hc0 hf
      · replace hf := x_if h5 hf
        refine x_aload_n B dX2_leastTime_32 rfl 0 rfl ?_
        refine x_get (v := .ref (ad (c0 + 6))) (kc := c0) (index := 47) B G.1 iX2_leastTime_cX2 rfl (s_kC hc0) (s_cC hc0) 11 (by decide) iX2_leastTime_3 rfl dX2_leastTime_33 ?_
        refine x_iload B dX2_leastTime_36 4 rfl ?_
        obtain ⟨h6, hf⟩ := x_gs hf
        refine x_iald (kc := c0 + 6) (t0 := 0) B G.1 (s_kC6 hc0) (s_cC6 hc0) rfl h6 dX2_leastTime_38 ?_
        refine x_iload_n B dX2_leastTime_39 rfl 3 rfl ?_
        refine x_icmp_ge (tgt := 51) B dX2_leastTime_40 (by decide) (fun h7 => ?_) (fun h7 => ?_)
        · replace hf := x_it h7 hf
          refine x_iinc (v := (x4 + 1)) (lv' := [(4, .int (x4 + 1)), (0, .ref (ad c0)), (1, .int x1), (2, .int x2), (3, .int x3)]) B dX2_leastTime_51 4 rfl rfl (by decide) rfl ?_
          refine x_goto (tgt := 6) B dX2_leastTime_54 (by decide) ?_
          refine x_sub [1, 2, 3, 4, 0] rfl ?_
          exact hK6 _ _ hf
        · replace hf := x_if h7 hf
          refine x_sub [0, 1, 2, 4] rfl ?_
          exact kX2_leastTime_43 B G hr hK6 hc0 hf
set_option maxRecDepth 100000 in
set_option maxHeartbeats 4000000 in
theorem kX2_leastTime_6 {σ : x_S} {c0 : Nat} {x1 : Int32} {x2 : Int32} {x3 : Int32} {x4 : Int32} (B : x_B p s m args meth c cX2_leastTime 5 wsX2_leastTime RX2) (G : x_H s D vwCl (s_tys cI cQ cC cZ) s_N ad (x_A s_N ad) (s_St aS) s_NW) (hr : meth.sig.returnType = (some .int)) (hc0 : s_iC c0) (hf : bX2_leastTime_6  c0 x1 x2 x3 x4 σ = some r0) : x_J p l e (x_rm 2) s m args below meth c 0 0 (MQ below (x_Qi D vwCl s_N (s_C cI cQ cC ad) ad r0 σ) args s 0 0 (x_A s_N ad)) (x_A s_N ad) 5 (x_I D vwCl s_N (s_C cI cQ cC ad) ad σ) [(0, .ref (ad c0)), (1, .int x1), (2, .int x2), (3, .int x3), (4, .int x4)] [] 6 := by
  have key : ∀ (n : Nat) (x3 : Int32) (x4 : Int32), x_fx (α := Int32 → Int32 → Option Int32) (fun _ _ => none) (fun K => fun x3 x4 => gX2_leastTime_6  c0 x1 x2 K x3 x4 σ) n x3 x4 = some r0 → x_J p l e (x_rm 2) s m args below meth c 0 0 (MQ below (x_Qi D vwCl s_N (s_C cI cQ cC ad) ad r0 σ) args s 0 0 (x_A s_N ad)) (x_A s_N ad) 5 (x_I D vwCl s_N (s_C cI cQ cC ad) ad σ) [(0, .ref (ad c0)), (1, .int x1), (2, .int x2), (3, .int x3), (4, .int x4)] [] 6 := by
    intro n
    induction n with
    | zero => intro x3 x4 h; cases h
    | succ n ih => intro x3 x4 h; exact qX2_leastTime_6 B G hr  ih hc0 h
  exact key x_F x3 x4 hf
set_option maxRecDepth 100000 in
set_option maxHeartbeats 4000000 in
theorem mX2_leastTime {σ : x_S} {c0 : Nat} {a1 : Int32} {a2 : Int32} (hdis : x_dis s_N ad) (hc0 : s_iC c0) (hf : fX2_leastTime c0 a1 a2 σ = some r0) : x_NI l yX2_leastTime wsX2_leastTime 2 D vwCl (s_tys cI cQ cC cZ) s_N (s_C cI cQ cC ad) ad (s_St aS) s_NW [.ref (ad c0), .int a1, .int a2] σ r0 σ := by
  refine x_met (cc := cX2_leastTime) (own := RX2) (maxL := 5) (ret := (some .int)) (by decide +kernel) rfl rfl (Nat.le_of_ble_eq_true rfl) hdis (s_StOk aS) s_NwOk (fun p e s m args below meth c B G hr => ?_)
  unfold fX2_leastTime at hf
  refine x_sub (lv' := [(0, .ref (ad c0)), (1, .int a1), (2, .int a2)]) [0, 1, 2] rfl ?_
  refine x_ldc (v := (-1000000)) B iX2_leastTime_0 dX2_leastTime_0 ?_
  refine x_istore_n (lv' := [(3, .int (-1000000)), (0, .ref (ad c0)), (1, .int a1), (2, .int a2)]) B dX2_leastTime_2 rfl (by decide) rfl ?_
  refine x_iconst (v := 0) B dX2_leastTime_3 (by decide) ?_
  refine x_istore (lv' := [(4, .int 0), (3, .int (-1000000)), (0, .ref (ad c0)), (1, .int a1), (2, .int a2)]) B dX2_leastTime_4 (by decide) rfl ?_
  refine x_sub [2, 3, 4, 1, 0] rfl ?_
  exact kX2_leastTime_6 B G hr hc0 hf
theorem hdX2_streetsWithout : yX2_streetsWithout.cls = RX2 ∧ yX2_streetsWithout.cls ≠ "java/lang/invoke/MethodHandle" ∧ yX2_streetsWithout.cls ≠ "java/lang/invoke/VarHandle" ∧ (parseMethodDescriptor yX2_streetsWithout.desc).map (fun d => d.parameters.length) = some 1 := by decide +kernel
theorem iX2_streetsWithout_0 : Cond.fieldLink RX2 22 "SignDuty$City" "streets" "I" ∈ wsX2_streetsWithout := by decide +kernel
theorem iX2_streetsWithout_cX2 : ∀ w ∈ u_ws RX2 TX2 13, w ∈ wsX2_streetsWithout := by decide +kernel
theorem iX2_streetsWithout_2 : Cond.constant RX2 85 (-1000000) ∈ wsX2_streetsWithout := by decide +kernel
set_option maxRecDepth 100000 in
set_option maxHeartbeats 4000000 in
theorem qX2_streetsWithout_4 {σ : x_S} {c0 : Nat} {x1 : Int32} {x2 : Int32} {x3 : Int32} {K4 : Int32 → Int32 → Option Int32} (B : x_B p s m args meth c cX2_streetsWithout 4 wsX2_streetsWithout RX2) (G : x_H s D vwCl (s_tys cI cQ cC cZ) s_N ad (x_A s_N ad) (s_St aS) s_NW) (hr : meth.sig.returnType = (some .int)) (hK4 : ∀ (x2 : Int32) (x3 : Int32), K4 x2 x3 = some r0 → x_J p l e (x_rm 3) s m args below meth c 0 0 (MQ below (x_Qi D vwCl s_N (s_C cI cQ cC ad) ad r0 σ) args s 0 0 (x_A s_N ad)) (x_A s_N ad) 4 (x_I D vwCl s_N (s_C cI cQ cC ad) ad σ) [(0, .ref (ad c0)), (1, .int x1), (2, .int x2), (3, .int x3)] [] 4) (hc0 : s_iC c0) (hf : gX2_streetsWithout_4  c0 x1 K4 x2 x3 σ = some r0) : x_J p l e (x_rm 3) s m args below meth c 0 0 (MQ below (x_Qi D vwCl s_N (s_C cI cQ cC ad) ad r0 σ) args s 0 0 (x_A s_N ad)) (x_A s_N ad) 4 (x_I D vwCl s_N (s_C cI cQ cC ad) ad σ) [(0, .ref (ad c0)), (1, .int x1), (2, .int x2), (3, .int x3)] [] 4 := by
  unfold gX2_streetsWithout_4 at hf
  refine x_iload_n B dX2_streetsWithout_4 rfl 3 rfl ?_
  refine x_aload_n B dX2_streetsWithout_5 rfl 0 rfl ?_
  refine x_get (v := .int (σ c0 3)) (kc := c0) (index := 22) B G.1 iX2_streetsWithout_cX2 rfl (s_kC hc0) (s_cC hc0) 3 (by decide) iX2_streetsWithout_0 rfl dX2_streetsWithout_6 ?_
  refine x_icmp_ge (tgt := 39) B dX2_streetsWithout_9 (by decide) (fun h1 => ?_) (fun h1 => ?_)
  · replace hf := x_it h1 hf
    refine x_iload_n B dX2_streetsWithout_39 rfl 2 rfl ?_
    obtain rfl := x_retP hf
    exact x_iret B hr dX2_streetsWithout_40
  · replace hf := x_if h1 hf
    refine x_iload_n B dX2_streetsWithout_12 rfl 2 rfl ?_
    refine x_aload_n B dX2_streetsWithout_13 rfl 0 rfl ?_
    refine x_iload_n B dX2_streetsWithout_14 rfl 1 rfl ?_
    refine x_iload_n B dX2_streetsWithout_15 rfl 3 rfl ?_
    obtain ⟨r3, e2, hf⟩ := x_ps hf
    refine x_callV (As := [.int x1, .int x3]) (st := [.int x2]) B G (mX2_leastTime (l := l) G.1.2.1 hc0 e2) (cwV 2 B.2.2.2.2.1 gX2_streetsWithout_X2_leastTime rfl rfl rfl hdX2_leastTime (x_rm_ok (by omega) (by decide))) (s_kC hc0) (s_cC hc0) rfl rfl rfl (Nat.le_of_ble_eq_true rfl) ⟨Nat.zero_le _, Nat.zero_le _⟩ dX2_streetsWithout_16 ?_
    refine x_ldc (v := (-1000000)) B iX2_streetsWithout_2 dX2_streetsWithout_19 ?_
    refine x_icmp_ne (tgt := 30) B dX2_streetsWithout_21 (by decide) (fun h4 => ?_) (fun h4 => ?_)
    · replace hf := x_if h4 hf
      refine x_iconst (v := 0) B dX2_streetsWithout_30 (by decide) ?_
      refine x_ior B dX2_streetsWithout_31 ?_
      refine x_istore_n (lv' := [(2, .int (x2 ||| 0)), (0, .ref (ad c0)), (1, .int x1), (3, .int x3)]) B dX2_streetsWithout_32 rfl (by decide) rfl ?_
      refine x_iinc (v := (x3 + 1)) (lv' := [(3, .int (x3 + 1)), (2, .int (x2 ||| 0)), (0, .ref (ad c0)), (1, .int x1)]) B dX2_streetsWithout_33 3 rfl rfl (by decide) rfl ?_
      refine x_goto (tgt := 4) B dX2_streetsWithout_36 (by decide) ?_
      refine x_sub [2, 3, 1, 0] rfl ?_
      exact hK4 _ _ hf
    · replace hf := x_it h4 hf
      refine x_iconst (v := 1) B dX2_streetsWithout_24 (by decide) ?_
      refine x_iload_n B dX2_streetsWithout_25 rfl 3 rfl ?_
      refine x_ishl B dX2_streetsWithout_26 ?_
      refine x_goto (tgt := 31) B dX2_streetsWithout_27 (by decide) ?_
      refine x_ior B dX2_streetsWithout_31 ?_
      refine x_istore_n (lv' := [(2, .int (x2 ||| (1 <<< (x3 &&& 31)))), (0, .ref (ad c0)), (1, .int x1), (3, .int x3)]) B dX2_streetsWithout_32 rfl (by decide) rfl ?_
      refine x_iinc (v := (x3 + 1)) (lv' := [(3, .int (x3 + 1)), (2, .int (x2 ||| (1 <<< (x3 &&& 31)))), (0, .ref (ad c0)), (1, .int x1)]) B dX2_streetsWithout_33 3 rfl rfl (by decide) rfl ?_
      refine x_goto (tgt := 4) B dX2_streetsWithout_36 (by decide) ?_
      refine x_sub [2, 3, 1, 0] rfl ?_
      exact hK4 _ _ hf
set_option maxRecDepth 100000 in
set_option maxHeartbeats 4000000 in
theorem kX2_streetsWithout_4 {σ : x_S} {c0 : Nat} {x1 : Int32} {x2 : Int32} {x3 : Int32} (B : x_B p s m args meth c cX2_streetsWithout 4 wsX2_streetsWithout RX2) (G : x_H s D vwCl (s_tys cI cQ cC cZ) s_N ad (x_A s_N ad) (s_St aS) s_NW) (hr : meth.sig.returnType = (some .int)) (hc0 : s_iC c0) (hf : bX2_streetsWithout_4  c0 x1 x2 x3 σ = some r0) : x_J p l e (x_rm 3) s m args below meth c 0 0 (MQ below (x_Qi D vwCl s_N (s_C cI cQ cC ad) ad r0 σ) args s 0 0 (x_A s_N ad)) (x_A s_N ad) 4 (x_I D vwCl s_N (s_C cI cQ cC ad) ad σ) [(0, .ref (ad c0)), (1, .int x1), (2, .int x2), (3, .int x3)] [] 4 := by
  have key : ∀ (n : Nat) (x2 : Int32) (x3 : Int32), x_fx (α := Int32 → Int32 → Option Int32) (fun _ _ => none) (fun K => fun x2 x3 => gX2_streetsWithout_4  c0 x1 K x2 x3 σ) n x2 x3 = some r0 → x_J p l e (x_rm 3) s m args below meth c 0 0 (MQ below (x_Qi D vwCl s_N (s_C cI cQ cC ad) ad r0 σ) args s 0 0 (x_A s_N ad)) (x_A s_N ad) 4 (x_I D vwCl s_N (s_C cI cQ cC ad) ad σ) [(0, .ref (ad c0)), (1, .int x1), (2, .int x2), (3, .int x3)] [] 4 := by
    intro n
    induction n with
    | zero => intro x2 x3 h; cases h
    | succ n ih => intro x2 x3 h; exact qX2_streetsWithout_4 B G hr  ih hc0 h
  exact key x_F x2 x3 hf
set_option maxRecDepth 100000 in
set_option maxHeartbeats 4000000 in
theorem mX2_streetsWithout {σ : x_S} {c0 : Nat} {a1 : Int32} (hdis : x_dis s_N ad) (hc0 : s_iC c0) (hf : fX2_streetsWithout c0 a1 σ = some r0) : x_NI l yX2_streetsWithout wsX2_streetsWithout 3 D vwCl (s_tys cI cQ cC cZ) s_N (s_C cI cQ cC ad) ad (s_St aS) s_NW [.ref (ad c0), .int a1] σ r0 σ := by
  refine x_met (cc := cX2_streetsWithout) (own := RX2) (maxL := 4) (ret := (some .int)) (by decide +kernel) rfl rfl (Nat.le_of_ble_eq_true rfl) hdis (s_StOk aS) s_NwOk (fun p e s m args below meth c B G hr => ?_)
  unfold fX2_streetsWithout at hf
  refine x_sub (lv' := [(0, .ref (ad c0)), (1, .int a1)]) [0, 1] rfl ?_
  refine x_iconst (v := 0) B dX2_streetsWithout_0 (by decide) ?_
  refine x_istore_n (lv' := [(2, .int 0), (0, .ref (ad c0)), (1, .int a1)]) B dX2_streetsWithout_1 rfl (by decide) rfl ?_
  refine x_iconst (v := 0) B dX2_streetsWithout_2 (by decide) ?_
  refine x_istore_n (lv' := [(3, .int 0), (2, .int 0), (0, .ref (ad c0)), (1, .int a1)]) B dX2_streetsWithout_3 rfl (by decide) rfl ?_
  refine x_sub [2, 3, 1, 0] rfl ?_
  exact kX2_streetsWithout_4 B G hr hc0 hf
theorem hdX2_owesIfKnown : yX2_owesIfKnown.cls = RX2 ∧ yX2_owesIfKnown.cls ≠ "java/lang/invoke/MethodHandle" ∧ yX2_owesIfKnown.cls ≠ "java/lang/invoke/VarHandle" ∧ (parseMethodDescriptor yX2_owesIfKnown.desc).map (fun d => d.parameters.length) = some 2 := by decide +kernel
theorem iX2_owesIfKnown_0 : Cond.fieldLink RX2 38 "SignDuty$City" "kind" "[I" ∈ wsX2_owesIfKnown := by decide +kernel
theorem iX2_owesIfKnown_cX2 : ∀ w ∈ u_ws RX2 TX2 13, w ∈ wsX2_owesIfKnown := by decide +kernel
theorem iX2_owesIfKnown_2 : Cond.fieldLink RX2 41 "SignDuty$City" "inches" "[I" ∈ wsX2_owesIfKnown := by decide +kernel
set_option maxRecDepth 100000 in
set_option maxHeartbeats 4000000 in
theorem mX2_owesIfKnown {σ : x_S} {c0 : Nat} {a1 : Int32} {a2 : Int32} (hdis : x_dis s_N ad) (hc0 : s_iC c0) (hf : fX2_owesIfKnown c0 a1 a2 σ = some r0) : x_NI l yX2_owesIfKnown wsX2_owesIfKnown 2 D vwCl (s_tys cI cQ cC cZ) s_N (s_C cI cQ cC ad) ad (s_St aS) s_NW [.ref (ad c0), .int a1, .int a2] σ r0 σ := by
  refine x_met (cc := cX2_owesIfKnown) (own := RX2) (maxL := 3) (ret := (some .int)) (by decide +kernel) rfl rfl (Nat.le_of_ble_eq_true rfl) hdis (s_StOk aS) s_NwOk (fun p e s m args below meth c B G hr => ?_)
  unfold fX2_owesIfKnown at hf
  refine x_sub (lv' := [(0, .ref (ad c0)), (1, .int a1), (2, .int a2)]) [0, 1, 2] rfl ?_
  refine x_aload_n B dX2_owesIfKnown_0 rfl 0 rfl ?_
  refine x_aload_n B dX2_owesIfKnown_1 rfl 0 rfl ?_
  refine x_get (v := .ref (ad (c0 + 3))) (kc := c0) (index := 38) B G.1 iX2_owesIfKnown_cX2 rfl (s_kC hc0) (s_cC hc0) 8 (by decide) iX2_owesIfKnown_0 rfl dX2_owesIfKnown_2 ?_
  refine x_iload_n B dX2_owesIfKnown_5 rfl 1 rfl ?_
  obtain ⟨h1, hf⟩ := x_gs hf
  refine x_iald (kc := c0 + 3) (t0 := 0) B G.1 (s_kC3 hc0) (s_cC3 hc0) rfl h1 dX2_owesIfKnown_6 ?_
  refine x_aload_n B dX2_owesIfKnown_7 rfl 0 rfl ?_
  refine x_get (v := .ref (ad (c0 + 4))) (kc := c0) (index := 41) B G.1 iX2_owesIfKnown_cX2 rfl (s_kC hc0) (s_cC hc0) 9 (by decide) iX2_owesIfKnown_2 rfl dX2_owesIfKnown_8 ?_
  refine x_iload_n B dX2_owesIfKnown_11 rfl 1 rfl ?_
  obtain ⟨h2, hf⟩ := x_gs hf
  refine x_iald (kc := c0 + 4) (t0 := 0) B G.1 (s_kC4 hc0) (s_cC4 hc0) rfl h2 dX2_owesIfKnown_12 ?_
  refine x_iload_n B dX2_owesIfKnown_13 rfl 2 rfl ?_
  obtain ⟨r4, e3, hf⟩ := x_ps hf
  refine x_callV (As := [.int (σ (c0 + 3) a1.toNatClampNeg), .int (σ (c0 + 4) a1.toNatClampNeg), .int a2]) (st := []) B G (mX2_owesUnknown (l := l) G.1.2.1 hc0 e3) (cwV 3 B.2.2.2.2.1 gX2_owesIfKnown_X2_owesUnknown rfl rfl rfl hdX2_owesUnknown (x_rm_ok (by omega) (by decide))) (s_kC hc0) (s_cC hc0) rfl rfl rfl (Nat.le_of_ble_eq_true rfl) ⟨Nat.zero_le _, Nat.zero_le _⟩ dX2_owesIfKnown_14 ?_
  refine x_iconst (v := 2) B dX2_owesIfKnown_17 (by decide) ?_
  refine x_idiv B dX2_owesIfKnown_18 (by decide) ?_
  obtain rfl := x_retP hf
  exact x_iret B hr dX2_owesIfKnown_19
theorem hdX2_dearestStreet : yX2_dearestStreet.cls = RX2 ∧ yX2_dearestStreet.cls ≠ "java/lang/invoke/MethodHandle" ∧ yX2_dearestStreet.cls ≠ "java/lang/invoke/VarHandle" ∧ (parseMethodDescriptor yX2_dearestStreet.desc).map (fun d => d.parameters.length) = some 1 := by decide +kernel
theorem iX2_dearestStreet_0 : Cond.fieldLink RX2 22 "SignDuty$City" "streets" "I" ∈ wsX2_dearestStreet := by decide +kernel
theorem iX2_dearestStreet_cX2 : ∀ w ∈ u_ws RX2 TX2 13, w ∈ wsX2_dearestStreet := by decide +kernel
set_option maxRecDepth 100000 in
set_option maxHeartbeats 4000000 in
theorem qX2_dearestStreet_4 {σ : x_S} {c0 : Nat} {x1 : Int32} {x2 : Int32} {x3 : Int32} {K4 : Int32 → Int32 → Option Int32} (B : x_B p s m args meth c cX2_dearestStreet 4 wsX2_dearestStreet RX2) (G : x_H s D vwCl (s_tys cI cQ cC cZ) s_N ad (x_A s_N ad) (s_St aS) s_NW) (hr : meth.sig.returnType = (some .int)) (hK4 : ∀ (x2 : Int32) (x3 : Int32), K4 x2 x3 = some r0 → x_J p l e (x_rm 4) s m args below meth c 0 0 (MQ below (x_Qi D vwCl s_N (s_C cI cQ cC ad) ad r0 σ) args s 0 0 (x_A s_N ad)) (x_A s_N ad) 4 (x_I D vwCl s_N (s_C cI cQ cC ad) ad σ) [(0, .ref (ad c0)), (1, .int x1), (2, .int x2), (3, .int x3)] [] 4) (hc0 : s_iC c0) (hf : gX2_dearestStreet_4  c0 x1 K4 x2 x3 σ = some r0) : x_J p l e (x_rm 4) s m args below meth c 0 0 (MQ below (x_Qi D vwCl s_N (s_C cI cQ cC ad) ad r0 σ) args s 0 0 (x_A s_N ad)) (x_A s_N ad) 4 (x_I D vwCl s_N (s_C cI cQ cC ad) ad σ) [(0, .ref (ad c0)), (1, .int x1), (2, .int x2), (3, .int x3)] [] 4 := by
  unfold gX2_dearestStreet_4 at hf
  refine x_iload_n B dX2_dearestStreet_4 rfl 3 rfl ?_
  refine x_aload_n B dX2_dearestStreet_5 rfl 0 rfl ?_
  refine x_get (v := .int (σ c0 3)) (kc := c0) (index := 22) B G.1 iX2_dearestStreet_cX2 rfl (s_kC hc0) (s_cC hc0) 3 (by decide) iX2_dearestStreet_0 rfl dX2_dearestStreet_6 ?_
  refine x_icmp_ge (tgt := 35) B dX2_dearestStreet_9 (by decide) (fun h1 => ?_) (fun h1 => ?_)
  · replace hf := x_it h1 hf
    refine x_iload_n B dX2_dearestStreet_35 rfl 2 rfl ?_
    obtain rfl := x_retP hf
    exact x_iret B hr dX2_dearestStreet_36
  · replace hf := x_if h1 hf
    refine x_aload_n B dX2_dearestStreet_12 rfl 0 rfl ?_
    refine x_iload_n B dX2_dearestStreet_13 rfl 1 rfl ?_
    refine x_iload_n B dX2_dearestStreet_14 rfl 3 rfl ?_
    obtain ⟨r3, e2, hf⟩ := x_ps hf
    refine x_callV (As := [.int x1, .int x3]) (st := []) B G (mX2_owes (l := l) G.1.2.1 hc0 e2) (cwV 2 B.2.2.2.2.1 gX2_dearestStreet_X2_owes rfl rfl rfl hdX2_owes (x_rm_ok (by omega) (by decide))) (s_kC hc0) (s_cC hc0) rfl rfl rfl (Nat.le_of_ble_eq_true rfl) ⟨Nat.zero_le _, Nat.zero_le _⟩ dX2_dearestStreet_15 ?_
    refine x_aload_n B dX2_dearestStreet_18 rfl 0 rfl ?_
    refine x_iload_n B dX2_dearestStreet_19 rfl 1 rfl ?_
    refine x_iload_n B dX2_dearestStreet_20 rfl 2 rfl ?_
    obtain ⟨r5, e4, hf⟩ := x_ps hf
    refine x_callV (As := [.int x1, .int x2]) (st := [.int r3]) B G (mX2_owes (l := l) G.1.2.1 hc0 e4) (cwV 2 B.2.2.2.2.1 gX2_dearestStreet_X2_owes rfl rfl rfl hdX2_owes (x_rm_ok (by omega) (by decide))) (s_kC hc0) (s_cC hc0) rfl rfl rfl (Nat.le_of_ble_eq_true rfl) ⟨Nat.zero_le _, Nat.zero_le _⟩ dX2_dearestStreet_21 ?_
    refine x_icmp_le (tgt := 29) B dX2_dearestStreet_24 (by decide) (fun h6 => ?_) (fun h6 => ?_)
    · replace hf := x_it h6 hf
      refine x_iinc (v := (x3 + 1)) (lv' := [(3, .int (x3 + 1)), (0, .ref (ad c0)), (1, .int x1), (2, .int x2)]) B dX2_dearestStreet_29 3 rfl rfl (by decide) rfl ?_
      refine x_goto (tgt := 4) B dX2_dearestStreet_32 (by decide) ?_
      refine x_sub [1, 2, 3, 0] rfl ?_
      exact hK4 _ _ hf
    · replace hf := x_if h6 hf
      refine x_iload_n B dX2_dearestStreet_27 rfl 3 rfl ?_
      refine x_istore_n (lv' := [(2, .int x3), (0, .ref (ad c0)), (1, .int x1), (3, .int x3)]) B dX2_dearestStreet_28 rfl (by decide) rfl ?_
      refine x_iinc (v := (x3 + 1)) (lv' := [(3, .int (x3 + 1)), (2, .int x3), (0, .ref (ad c0)), (1, .int x1)]) B dX2_dearestStreet_29 3 rfl rfl (by decide) rfl ?_
      refine x_goto (tgt := 4) B dX2_dearestStreet_32 (by decide) ?_
      refine x_sub [2, 3, 1, 0] rfl ?_
      exact hK4 _ _ hf
set_option maxRecDepth 100000 in
set_option maxHeartbeats 4000000 in
theorem kX2_dearestStreet_4 {σ : x_S} {c0 : Nat} {x1 : Int32} {x2 : Int32} {x3 : Int32} (B : x_B p s m args meth c cX2_dearestStreet 4 wsX2_dearestStreet RX2) (G : x_H s D vwCl (s_tys cI cQ cC cZ) s_N ad (x_A s_N ad) (s_St aS) s_NW) (hr : meth.sig.returnType = (some .int)) (hc0 : s_iC c0) (hf : bX2_dearestStreet_4  c0 x1 x2 x3 σ = some r0) : x_J p l e (x_rm 4) s m args below meth c 0 0 (MQ below (x_Qi D vwCl s_N (s_C cI cQ cC ad) ad r0 σ) args s 0 0 (x_A s_N ad)) (x_A s_N ad) 4 (x_I D vwCl s_N (s_C cI cQ cC ad) ad σ) [(0, .ref (ad c0)), (1, .int x1), (2, .int x2), (3, .int x3)] [] 4 := by
  have key : ∀ (n : Nat) (x2 : Int32) (x3 : Int32), x_fx (α := Int32 → Int32 → Option Int32) (fun _ _ => none) (fun K => fun x2 x3 => gX2_dearestStreet_4  c0 x1 K x2 x3 σ) n x2 x3 = some r0 → x_J p l e (x_rm 4) s m args below meth c 0 0 (MQ below (x_Qi D vwCl s_N (s_C cI cQ cC ad) ad r0 σ) args s 0 0 (x_A s_N ad)) (x_A s_N ad) 4 (x_I D vwCl s_N (s_C cI cQ cC ad) ad σ) [(0, .ref (ad c0)), (1, .int x1), (2, .int x2), (3, .int x3)] [] 4 := by
    intro n
    induction n with
    | zero => intro x2 x3 h; cases h
    | succ n ih => intro x2 x3 h; exact qX2_dearestStreet_4 B G hr  ih hc0 h
  exact key x_F x2 x3 hf
set_option maxRecDepth 100000 in
set_option maxHeartbeats 4000000 in
theorem mX2_dearestStreet {σ : x_S} {c0 : Nat} {a1 : Int32} (hdis : x_dis s_N ad) (hc0 : s_iC c0) (hf : fX2_dearestStreet c0 a1 σ = some r0) : x_NI l yX2_dearestStreet wsX2_dearestStreet 4 D vwCl (s_tys cI cQ cC cZ) s_N (s_C cI cQ cC ad) ad (s_St aS) s_NW [.ref (ad c0), .int a1] σ r0 σ := by
  refine x_met (cc := cX2_dearestStreet) (own := RX2) (maxL := 4) (ret := (some .int)) (by decide +kernel) rfl rfl (Nat.le_of_ble_eq_true rfl) hdis (s_StOk aS) s_NwOk (fun p e s m args below meth c B G hr => ?_)
  unfold fX2_dearestStreet at hf
  refine x_sub (lv' := [(0, .ref (ad c0)), (1, .int a1)]) [0, 1] rfl ?_
  refine x_iconst (v := 0) B dX2_dearestStreet_0 (by decide) ?_
  refine x_istore_n (lv' := [(2, .int 0), (0, .ref (ad c0)), (1, .int a1)]) B dX2_dearestStreet_1 rfl (by decide) rfl ?_
  refine x_iconst (v := 1) B dX2_dearestStreet_2 (by decide) ?_
  refine x_istore_n (lv' := [(3, .int 1), (2, .int 0), (0, .ref (ad c0)), (1, .int a1)]) B dX2_dearestStreet_3 rfl (by decide) rfl ?_
  refine x_sub [2, 3, 1, 0] rfl ?_
  exact kX2_dearestStreet_4 B G hr hc0 hf
theorem hdX3_widerThan : yX3_widerThan.cls ≠ "java/lang/invoke/MethodHandle" ∧ yX3_widerThan.cls ≠ "java/lang/invoke/VarHandle" ∧ (parseMethodDescriptor yX3_widerThan.desc).map (fun d => d.parameters.length) = some 1 := by decide +kernel
theorem iX3_widerThan_0 : Cond.fieldLink RX3 7 "SignDuty$Kinds" "WIDER" "[I" ∈ wsX3_widerThan := by decide +kernel
set_option maxRecDepth 100000 in
set_option maxHeartbeats 4000000 in
theorem mX3_widerThan {σ : x_S} {a0 : Int32} (hdis : x_dis s_N ad) (hf : fX3_widerThan a0 σ = some r0) : x_NI l yX3_widerThan wsX3_widerThan 0 D vwCl (s_tys cI cQ cC cZ) s_N (s_C cI cQ cC ad) ad (s_St aS) s_NW [.int a0] σ r0 σ := by
  refine x_met (cc := cX3_widerThan) (own := RX3) (maxL := 1) (ret := (some .int)) (by decide +kernel) rfl rfl (Nat.le_of_ble_eq_true rfl) hdis (s_StOk aS) s_NwOk (fun p e s m args below meth c B G hr => ?_)
  unfold fX3_widerThan at hf
  refine x_sub (lv' := [(0, .int a0)]) [0] rfl ?_
  refine x_iload_n B dX3_widerThan_0 rfl 0 rfl ?_
  refine x_if_lt (tgt := 20) B dX3_widerThan_1 (by decide) (fun h1 => ?_) (fun h1 => ?_)
  · replace hf := x_it h1 hf
    refine x_iconst (v := 0) B dX3_widerThan_20 (by decide) ?_
    obtain rfl := x_retP hf
    exact x_iret B hr dX3_widerThan_21
  · replace hf := x_if h1 hf
    refine x_iload_n B dX3_widerThan_4 rfl 0 rfl ?_
    refine x_gets B G.1.2.2.2.2.1 iX3_widerThan_0 dX3_widerThan_5 ?_
    refine x_talen (v := 6) B (G.1.2.2.2.2.2.2.2 0 (by decide)) (by decide) dX3_widerThan_8 ?_
    refine x_icmp_ge (tgt := 20) B dX3_widerThan_9 (by decide) (fun h2 => ?_) (fun h2 => ?_)
    · replace hf := x_it h2 hf
      refine x_iconst (v := 0) B dX3_widerThan_20 (by decide) ?_
      obtain rfl := x_retP hf
      exact x_iret B hr dX3_widerThan_21
    · replace hf := x_if h2 hf
      refine x_gets B G.1.2.2.2.2.1 iX3_widerThan_0 dX3_widerThan_12 ?_
      refine x_iload_n B dX3_widerThan_15 rfl 0 rfl ?_
      obtain ⟨h3, hf⟩ := x_gs hf
      refine x_tald (f := s_t 0) B (G.1.2.2.2.2.2.2.2 0 (by decide)) h3 dX3_widerThan_16 ?_
      refine x_goto (tgt := 21) B dX3_widerThan_17 (by decide) ?_
      obtain rfl := x_retP hf
      exact x_iret B hr dX3_widerThan_21
theorem hdX3_isOneOf : yX3_isOneOf.cls ≠ "java/lang/invoke/MethodHandle" ∧ yX3_isOneOf.cls ≠ "java/lang/invoke/VarHandle" ∧ (parseMethodDescriptor yX3_isOneOf.desc).map (fun d => d.parameters.length) = some 2 := by decide +kernel
theorem iX3_isOneOf_0 : Cond.fieldLink RX3 7 "SignDuty$Kinds" "WIDER" "[I" ∈ wsX3_isOneOf := by decide +kernel
set_option maxRecDepth 100000 in
set_option maxHeartbeats 4000000 in
theorem kX3_isOneOf_28 {σ : x_S} {x1 : Int32} {x2 : Int32} (B : x_B p s m args meth c cX3_isOneOf 4 wsX3_isOneOf RX3) (G : x_H s D vwCl (s_tys cI cQ cC cZ) s_N ad (x_A s_N ad) (s_St aS) s_NW) (hr : meth.sig.returnType = (some .boolean)) (hf : bX3_isOneOf_28  x1 x2 σ = some r0) : x_J p l e (x_rm 1) s m args below meth c 0 0 (MQ below (x_Qi D vwCl s_N (s_C cI cQ cC ad) ad r0 σ) args s 0 0 (x_A s_N ad)) (x_A s_N ad) 4 (x_I D vwCl s_N (s_C cI cQ cC ad) ad σ) [(1, .int x1), (2, .int x2)] [] 28 := by
  unfold bX3_isOneOf_28 at hf
  refine x_iload_n B dX3_isOneOf_28 rfl 1 rfl ?_
  refine x_iload_n B dX3_isOneOf_29 rfl 0 rfl ?_
  refine x_icmp_ne (tgt := 37) B dX3_isOneOf_30 (by decide) (fun h1 => ?_) (fun h1 => ?_)
  · replace hf := x_if h1 hf
    refine x_iconst (v := 0) B dX3_isOneOf_37 (by decide) ?_
    obtain rfl := x_retP hf
    exact x_zret B hr (by decide) dX3_isOneOf_38
  · replace hf := x_it h1 hf
    refine x_iconst (v := 1) B dX3_isOneOf_33 (by decide) ?_
    refine x_goto (tgt := 38) B dX3_isOneOf_34 (by decide) ?_
    obtain rfl := x_retP hf
    exact x_zret B hr (by decide) dX3_isOneOf_38
set_option maxRecDepth 100000 in
set_option maxHeartbeats 4000000 in
theorem qX3_isOneOf_4 {σ : x_S} {x1 : Int32} {x2 : Int32} {x3 : Int32} {K4 : Int32 → Int32 → Option Int32} (B : x_B p s m args meth c cX3_isOneOf 4 wsX3_isOneOf RX3) (G : x_H s D vwCl (s_tys cI cQ cC cZ) s_N ad (x_A s_N ad) (s_St aS) s_NW) (hr : meth.sig.returnType = (some .boolean)) (hK4 : ∀ (x2 : Int32) (x3 : Int32), K4 x2 x3 = some r0 → x_J p l e (x_rm 1) s m args below meth c 0 0 (MQ below (x_Qi D vwCl s_N (s_C cI cQ cC ad) ad r0 σ) args s 0 0 (x_A s_N ad)) (x_A s_N ad) 4 (x_I D vwCl s_N (s_C cI cQ cC ad) ad σ) [(1, .int x1), (2, .int x2), (3, .int x3)] [] 4) (hf : gX3_isOneOf_4  x1 K4 x2 x3 σ = some r0) : x_J p l e (x_rm 1) s m args below meth c 0 0 (MQ below (x_Qi D vwCl s_N (s_C cI cQ cC ad) ad r0 σ) args s 0 0 (x_A s_N ad)) (x_A s_N ad) 4 (x_I D vwCl s_N (s_C cI cQ cC ad) ad σ) [(1, .int x1), (2, .int x2), (3, .int x3)] [] 4 := by
  unfold gX3_isOneOf_4 at hf
  refine x_iload_n B dX3_isOneOf_4 rfl 2 rfl ?_
  refine x_gets B G.1.2.2.2.2.1 iX3_isOneOf_0 dX3_isOneOf_5 ?_
  refine x_talen (v := 6) B (G.1.2.2.2.2.2.2.2 0 (by decide)) (by decide) dX3_isOneOf_8 ?_
  refine x_icmp_ge (tgt := 28) B dX3_isOneOf_9 (by decide) (fun h1 => ?_) (fun h1 => ?_)
  · replace hf := x_it h1 hf
    refine x_sub [0, 1] rfl ?_
    exact kX3_isOneOf_28 B G hr hf
  · replace hf := x_if h1 hf
    refine x_iload_n B dX3_isOneOf_12 rfl 1 rfl ?_
    refine x_iload_n B dX3_isOneOf_13 rfl 0 rfl ?_
    refine x_icmp_eq (tgt := 28) B dX3_isOneOf_14 (by decide) (fun h2 => ?_) (fun h2 => ?_)
    · replace hf := x_it h2 hf
      refine x_sub [0, 1] rfl ?_
      exact kX3_isOneOf_28 B G hr hf
    · replace hf := x_if h2 hf
      refine x_iload_n B dX3_isOneOf_17 rfl 1 rfl ?_
      obtain ⟨r4, e3, hf⟩ := x_ps hf
      refine x_callS (As := [.int x2]) (st := []) B G (mX3_widerThan (l := l) G.1.2.1  e3) (va_cwS 1 B.2.2.2.2.1 gX3_isOneOf_X3_widerThan rfl rfl rfl hdX3_widerThan (x_rm_ok (by omega) (by decide))) rfl rfl (Nat.le_of_ble_eq_true rfl) ⟨Nat.zero_le _, Nat.zero_le _⟩ dX3_isOneOf_18 ?_
      refine x_istore_n (lv' := [(2, .int r4), (1, .int x1), (3, .int x3)]) B dX3_isOneOf_21 rfl (by decide) rfl ?_
      refine x_iinc (v := (x3 + 1)) (lv' := [(3, .int (x3 + 1)), (2, .int r4), (1, .int x1)]) B dX3_isOneOf_22 2 rfl rfl (by decide) rfl ?_
      refine x_goto (tgt := 4) B dX3_isOneOf_25 (by decide) ?_
      refine x_sub [2, 1, 0] rfl ?_
      exact hK4 _ _ hf
set_option maxRecDepth 100000 in
set_option maxHeartbeats 4000000 in
theorem kX3_isOneOf_4 {σ : x_S} {x1 : Int32} {x2 : Int32} {x3 : Int32} (B : x_B p s m args meth c cX3_isOneOf 4 wsX3_isOneOf RX3) (G : x_H s D vwCl (s_tys cI cQ cC cZ) s_N ad (x_A s_N ad) (s_St aS) s_NW) (hr : meth.sig.returnType = (some .boolean)) (hf : bX3_isOneOf_4  x1 x2 x3 σ = some r0) : x_J p l e (x_rm 1) s m args below meth c 0 0 (MQ below (x_Qi D vwCl s_N (s_C cI cQ cC ad) ad r0 σ) args s 0 0 (x_A s_N ad)) (x_A s_N ad) 4 (x_I D vwCl s_N (s_C cI cQ cC ad) ad σ) [(1, .int x1), (2, .int x2), (3, .int x3)] [] 4 := by
  have key : ∀ (n : Nat) (x2 : Int32) (x3 : Int32), x_fx (α := Int32 → Int32 → Option Int32) (fun _ _ => none) (fun K => fun x2 x3 => gX3_isOneOf_4  x1 K x2 x3 σ) n x2 x3 = some r0 → x_J p l e (x_rm 1) s m args below meth c 0 0 (MQ below (x_Qi D vwCl s_N (s_C cI cQ cC ad) ad r0 σ) args s 0 0 (x_A s_N ad)) (x_A s_N ad) 4 (x_I D vwCl s_N (s_C cI cQ cC ad) ad σ) [(1, .int x1), (2, .int x2), (3, .int x3)] [] 4 := by
    intro n
    induction n with
    | zero => intro x2 x3 h; cases h
    | succ n ih => intro x2 x3 h; exact qX3_isOneOf_4 B G hr  ih  h
  exact key x_F x2 x3 hf
set_option maxRecDepth 100000 in
set_option maxHeartbeats 4000000 in
theorem mX3_isOneOf {σ : x_S} {a0 : Int32} {a1 : Int32} (hdis : x_dis s_N ad) (hf : fX3_isOneOf a0 a1 σ = some r0) : x_NI l yX3_isOneOf wsX3_isOneOf 1 D vwCl (s_tys cI cQ cC cZ) s_N (s_C cI cQ cC ad) ad (s_St aS) s_NW [.int a0, .int a1] σ r0 σ := by
  refine x_met (cc := cX3_isOneOf) (own := RX3) (maxL := 4) (ret := (some .boolean)) (by decide +kernel) rfl rfl (Nat.le_of_ble_eq_true rfl) hdis (s_StOk aS) s_NwOk (fun p e s m args below meth c B G hr => ?_)
  unfold fX3_isOneOf at hf
  refine x_sub (lv' := [(0, .int a0), (1, .int a1)]) [0, 1] rfl ?_
  refine x_iload_n B dX3_isOneOf_0 rfl 0 rfl ?_
  refine x_istore_n (lv' := [(2, .int a0), (0, .int a0), (1, .int a1)]) B dX3_isOneOf_1 rfl (by decide) rfl ?_
  refine x_iconst (v := 0) B dX3_isOneOf_2 (by decide) ?_
  refine x_istore_n (lv' := [(3, .int 0), (2, .int a0), (0, .int a0), (1, .int a1)]) B dX3_isOneOf_3 rfl (by decide) rfl ?_
  refine x_sub [3, 1, 0] rfl ?_
  exact kX3_isOneOf_4 B G hr hf
end G
