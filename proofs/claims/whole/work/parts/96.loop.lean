section LP
variable {p : Program} {l : Launch} {e : Env} {s : State} {m : MethodId} {below : List Frame} {meth : Method} {c : Code} {cells slots : Nat}
variable {D : va_G} {cI cQ cC cZ : ClassId} {ad aS am : Nat → Nat} {b L : Nat} {xs : Nat → Int32}
/-- the law's end -/
theorem y_end {I : Heap → Prop} {lv : List (Nat × Value)} (X : y_X p s m meth c D cI cQ cC cZ ad aS am b L xs cells slots) : x_J p l e room_1 s m #[Value.ref b] below meth c cells slots (lw_Z below #[Value.ref b] s) (y_A s) 4 I lv [.int 1] 1251 := by
  obtain ⟨B, GS, GM, hdj, hX, hbl, hL, hcl, hsl, hr⟩ := X
  intro H locs ls h1 h2 h3
  refine va_forget (fun q hq => h2.2.2 q hq) ?_
  refine W.widen hcl hsl ?_
  exact lw_ret B.1 B.2.1 hr B.2.2.2.2.2 dL_law_1251
theorem y_room {L j : Nat} (hL : L ≤ 448) (hj : j ≤ 1000) (h : ¬ nI L - 7 < nI j) : j + 7 ≤ L := by
  rcases Nat.lt_or_ge L (j + 7) with q | q
  · exfalso
    rcases Nat.lt_or_ge L 7 with q2 | q2
    · have h1 : nI L - 7 < 0 := pk_sneg (a := L) (b := 7) (by decide) q2
      exact h (Int32.lt_of_lt_of_le h1 (nI_pos' (by omega)))
    · have h1 : nI L - 7 = nI (L - 7) := pk_sub (a := L) (b := 7) q2
      rw [h1] at h
      exact h (nI_lt (by omega) (by omega))
  · exact q
set_option maxRecDepth 100000 in
set_option maxHeartbeats 4000000 in
/-- THE LAW'S LOOP -/
theorem y_loop (X : y_X p s m meth c D cI cQ cC cZ ad aS am b L xs cells slots) (Rel : x_S → x_S → Prop) (hop : ∀ σ τ, Rel σ τ → ∀ k, k < 32 → ∀ a1 a2 a3 a4 a5 a6 : Int32, ∃ r σ' τ', y_S k a1 a2 a3 a4 a5 a6 σ = some (r, σ') ∧ y_M k a1 a2 a3 a4 a5 a6 τ = some (r, τ') ∧ Rel σ' τ') :
    ∀ (n j : Nat) (σ τ : x_S), j ≤ L + 7 → L + 8 ≤ j + n → Rel σ τ → x_J p l e room_1 s m #[Value.ref b] below meth c cells slots (lw_Z below #[Value.ref b] s) (y_A s) 4 (y_I D cI cQ cC cZ ad am σ τ) [(0, .ref b), (1, .ref (ad 0)), (2, .ref (am 0)), (3, .int (nI j))] [] 18 := by
  have X0 := X
  obtain ⟨B, GS, GM, hdj, hX, hbl, hL, hcl, hsl, hr⟩ := X
  have hbA : ¬ y_A s b := Nat.not_le.mpr hbl
  intro n
  induction n with
  | zero =>
    intro j σ τ h1 h2 _
    exact absurd h2 (by omega)
  | succ n ih =>
    intro j σ τ hj hn hR
    refine x_iload_n B dL_law_18 rfl 3 rfl ?_
    refine x_aload_n B dL_law_19 rfl 0 rfl ?_
    refine y_slen B hX hbl hbA dL_law_20 ?_
    refine x_bipush (v := 7) B dL_law_21 (by decide) ?_
    refine x_isub B dL_law_23 ?_
    refine x_icmp_gt (tgt := 1250) B dL_law_24 (by decide) (fun _ => ?_) (fun h => ?_)
    · refine x_iconst (v := 1) B dL_law_1250 (by decide) ?_
      exact y_end X0
    · have hj7 : j + 7 ≤ L := y_room hL (by omega) h
      refine x_aload_n B dL_law_27 rfl 0 rfl ?_
      refine x_iload_n B dL_law_28 rfl 3 rfl ?_
      refine y_sld B hX hbl hbA (j := j) rfl (by omega) hL dL_law_29 ?_
      refine x_bipush (v := 31) B dL_law_30 (by decide) ?_
      refine x_iand B dL_law_32 ?_
      obtain ⟨k, hk, ek⟩ := pk_andE (xs j) (m := 31) 5 (by decide)
      rw [ek]
      have hk : k < 32 := hk
      obtain ⟨r, σ', τ', hS, hM, hR'⟩ := hop σ τ hR k hk (xs (j + 1)) (xs (j + 2)) (xs (j + 3)) (xs (j + 4)) (xs (j + 5)) (xs (j + 6))
      have kk : x_J p l e room_1 s m #[Value.ref b] below meth c cells slots (lw_Z below #[Value.ref b] s) (y_A s) 4 (y_I D cI cQ cC cZ ad am σ' τ') [(0, .ref b), (1, .ref (ad 0)), (2, .ref (am 0)), (3, .int (nI j))] [] 1244 := by
        refine x_iinc (v := nI (j + 7)) (lv' := [(3, .int (nI (j + 7))), (0, .ref b), (1, .ref (ad 0)), (2, .ref (am 0))]) B dL_law_1244 3 rfl (nI_add j 7) (by decide) rfl ?_
        refine x_goto (tgt := 18) B dL_law_1247 (by decide) ?_
        exact x_sub [1, 2, 3, 0] rfl (ih (j + 7) σ' τ' (by omega) (by omega) hR')
      clear ek hR hop
      rcases (show k = 0 ∨ k = 1 ∨ k = 2 ∨ k = 3 ∨ k = 4 ∨ k = 5 ∨ k = 6 ∨ k = 7 ∨ k = 8 ∨ k = 9 ∨ k = 10 ∨ k = 11 ∨ k = 12 ∨ k = 13 ∨ k = 14 ∨ k = 15 ∨ k = 16 ∨ k = 17 ∨ k = 18 ∨ k = 19 ∨ k = 20 ∨ k = 21 ∨ k = 22 ∨ k = 23 ∨ k = 24 ∨ k = 25 ∨ k = 26 ∨ k = 27 ∨ k = 28 ∨ k = 29 ∨ k = 30 ∨ k = 31 by omega) with rfl | rfl | rfl | rfl | rfl | rfl | rfl | rfl | rfl | rfl | rfl | rfl | rfl | rfl | rfl | rfl | rfl | rfl | rfl | rfl | rfl | rfl | rfl | rfl | rfl | rfl | rfl | rfl | rfl | rfl | rfl | rfl
      · refine x_tableIn (tgt := 176) (off := 143) B dL_law_33 (by decide) (by decide) (by decide) (by decide) ?_
        have hS1 : fX7_row (xs (j + 1)) (xs (j + 2)) (xs (j + 3)) σ = some (r, σ') := hS
        have hM1 : fX8_row (xs (j + 1)) (xs (j + 2)) (xs (j + 3)) τ = some (_, τ') := hM
        exact y_c0 X0 hj7 hS1 hM1 kk
      · refine x_tableIn (tgt := 219) (off := 186) B dL_law_33 (by decide) (by decide) (by decide) (by decide) ?_
        have hS1 : fX7_set (xs (j + 1)) (xs (j + 2)) (xs (j + 3)) σ = some (r, σ') := hS
        have hM1 : fX8_set (xs (j + 1)) (xs (j + 2)) (xs (j + 3)) τ = some (_, τ') := hM
        exact y_c1 X0 hj7 hS1 hM1 kk
      · refine x_tableIn (tgt := 262) (off := 229) B dL_law_33 (by decide) (by decide) (by decide) (by decide) ?_
        have hS1 : fX7_copy (xs (j + 1)) (xs (j + 2)) (xs (j + 3)) (xs (j + 4)) (xs (j + 5)) σ = some (r, σ') := hS
        have hM1 : fX8_copy (xs (j + 1)) (xs (j + 2)) (xs (j + 3)) (xs (j + 4)) (xs (j + 5)) τ = some (_, τ') := hM
        exact y_c2 X0 hj7 hS1 hM1 kk
      · refine x_tableIn (tgt := 325) (off := 292) B dL_law_33 (by decide) (by decide) (by decide) (by decide) ?_
        have hS1 : fX7_drop (xs (j + 1)) σ = some (r, σ') := hS
        have hM1 : fX8_drop (xs (j + 1)) τ = some (_, τ') := hM
        exact y_c3 X0 hj7 hS1 hM1 kk
      · refine x_tableIn (tgt := 348) (off := 315) B dL_law_33 (by decide) (by decide) (by decide) (by decide) ?_
        have hS1 : fX7_feed (xs (j + 1)) σ = some (r, σ') := hS
        have hM1 : fX8_feed (xs (j + 1)) τ = some (_, τ') := hM
        exact y_c4 X0 hj7 hS1 hM1 kk
      · refine x_tableIn (tgt := 371) (off := 338) B dL_law_33 (by decide) (by decide) (by decide) (by decide) ?_
        have hS1 : fX7_city σ = some (r, σ') := hS
        have hM1 : fX8_city τ = some (_, τ') := hM
        exact y_c5 X0 hj7 hS1 hM1 kk
      · refine x_tableIn (tgt := 384) (off := 351) B dL_law_33 (by decide) (by decide) (by decide) (by decide) ?_
        obtain ⟨r1, hS1, e1⟩ := x_ps (show x_p (fX7_fault σ) (fun r => some (r, σ)) = some (r, σ') from hS)
        cases e1
        obtain ⟨r2, hM1, e2⟩ := x_ps (show x_p (fX8_fault τ) (fun r => some (r, τ)) = some (_, τ') from hM)
        cases e2
        exact y_c6 (σ' := σ) (τ' := τ) X0 hj7 hS1 hM1 kk
      · refine x_tableIn (tgt := 397) (off := 364) B dL_law_33 (by decide) (by decide) (by decide) (by decide) ?_
        have hS1 : fX7_make (xs (j + 1)) (xs (j + 2)) σ = some (r, σ') := hS
        have hM1 : fX8_make (xs (j + 1)) (xs (j + 2)) τ = some (_, τ') := hM
        exact y_c7 X0 hj7 hS1 hM1 kk
      · refine x_tableIn (tgt := 430) (off := 397) B dL_law_33 (by decide) (by decide) (by decide) (by decide) ?_
        have hS1 : fX7_dim (xs (j + 1)) (xs (j + 2)) σ = some (r, σ') := hS
        have hM1 : fX8_dim (xs (j + 1)) (xs (j + 2)) τ = some (_, τ') := hM
        exact y_c8 X0 hj7 hS1 hM1 kk
      · refine x_tableIn (tgt := 463) (off := 430) B dL_law_33 (by decide) (by decide) (by decide) (by decide) ?_
        have hS1 : fX7_train (xs (j + 1)) (xs (j + 2)) σ = some (r, σ') := hS
        have hM1 : fX8_train (xs (j + 1)) (xs (j + 2)) τ = some (_, τ') := hM
        exact y_c9 X0 hj7 hS1 hM1 kk
      · refine x_tableIn (tgt := 496) (off := 463) B dL_law_33 (by decide) (by decide) (by decide) (by decide) ?_
        have hS1 : fX7_know (xs (j + 1)) (xs (j + 2)) σ = some (r, σ') := hS
        have hM1 : fX8_know (xs (j + 1)) (xs (j + 2)) τ = some (_, τ') := hM
        exact y_c10 X0 hj7 hS1 hM1 kk
      · refine x_tableIn (tgt := 529) (off := 496) B dL_law_33 (by decide) (by decide) (by decide) (by decide) ?_
        have hS1 : fX7_undo σ = some (r, σ') := hS
        have hM1 : fX8_undo τ = some (_, τ') := hM
        exact y_c11 X0 hj7 hS1 hM1 kk
      · refine x_tableIn (tgt := 542) (off := 509) B dL_law_33 (by decide) (by decide) (by decide) (by decide) ?_
        obtain ⟨r1, hS1, e1⟩ := x_ps (show x_p (fX7_gesture (xs (j + 1)) (xs (j + 2)) σ) (fun r => some (r, σ)) = some (r, σ') from hS)
        cases e1
        obtain ⟨r2, hM1, e2⟩ := x_ps (show x_p (fX8_gesture (xs (j + 1)) (xs (j + 2)) τ) (fun r => some (r, τ)) = some (_, τ') from hM)
        cases e2
        exact y_c12 (σ' := σ) (τ' := τ) X0 hj7 hS1 hM1 kk
      · refine x_tableIn (tgt := 575) (off := 542) B dL_law_33 (by decide) (by decide) (by decide) (by decide) ?_
        obtain ⟨r1, hS1, e1⟩ := x_ps (show x_p (fX7_street (xs (j + 1)) (xs (j + 2)) σ) (fun r => some (r, σ)) = some (r, σ') from hS)
        cases e1
        obtain ⟨r2, hM1, e2⟩ := x_ps (show x_p (fX8_street (xs (j + 1)) (xs (j + 2)) τ) (fun r => some (r, τ)) = some (_, τ') from hM)
        cases e2
        exact y_c13 (σ' := σ) (τ' := τ) X0 hj7 hS1 hM1 kk
      · refine x_tableIn (tgt := 608) (off := 575) B dL_law_33 (by decide) (by decide) (by decide) (by decide) ?_
        obtain ⟨r1, hS1, e1⟩ := x_ps (show x_p (fX7_duty (xs (j + 1)) (xs (j + 2)) σ) (fun r => some (r, σ)) = some (r, σ') from hS)
        cases e1
        obtain ⟨r2, hM1, e2⟩ := x_ps (show x_p (fX8_duty (xs (j + 1)) (xs (j + 2)) τ) (fun r => some (r, τ)) = some (_, τ') from hM)
        cases e2
        exact y_c14 (σ' := σ) (τ' := τ) X0 hj7 hS1 hM1 kk
      · refine x_tableIn (tgt := 641) (off := 608) B dL_law_33 (by decide) (by decide) (by decide) (by decide) ?_
        have hS1 : fX7_tell (xs (j + 1)) (xs (j + 2)) (xs (j + 3)) (xs (j + 4)) (xs (j + 5)) σ = some (r, σ') := hS
        have hM1 : fX8_tell (xs (j + 1)) (xs (j + 2)) (xs (j + 3)) (xs (j + 4)) (xs (j + 5)) τ = some (_, τ') := hM
        exact y_c15 X0 hj7 hS1 hM1 kk
      · refine x_tableIn (tgt := 704) (off := 671) B dL_law_33 (by decide) (by decide) (by decide) (by decide) ?_
        obtain ⟨r1, hS1, e1⟩ := x_ps (show x_p (fX7_shut (xs (j + 1)) σ) (fun r => some (r, σ)) = some (r, σ') from hS)
        cases e1
        obtain ⟨r2, hM1, e2⟩ := x_ps (show x_p (fX8_shut (xs (j + 1)) τ) (fun r => some (r, τ)) = some (_, τ') from hM)
        cases e2
        exact y_c16 (σ' := σ) (τ' := τ) X0 hj7 hS1 hM1 kk
      · refine x_tableIn (tgt := 727) (off := 694) B dL_law_33 (by decide) (by decide) (by decide) (by decide) ?_
        obtain ⟨r1, hS1, e1⟩ := x_ps (show x_p (fX7_quick (xs (j + 1)) (xs (j + 2)) (xs (j + 3)) σ) (fun r => some (r, σ)) = some (r, σ') from hS)
        cases e1
        obtain ⟨r2, hM1, e2⟩ := x_ps (show x_p (fX8_quick (xs (j + 1)) (xs (j + 2)) (xs (j + 3)) τ) (fun r => some (r, τ)) = some (_, τ') from hM)
        cases e2
        exact y_c17 (σ' := σ) (τ' := τ) X0 hj7 hS1 hM1 kk
      · refine x_tableIn (tgt := 770) (off := 737) B dL_law_33 (by decide) (by decide) (by decide) (by decide) ?_
        have hS1 : fX7_thread (xs (j + 1)) (xs (j + 2)) (xs (j + 3)) σ = some (r, σ') := hS
        have hM1 : fX8_thread (xs (j + 1)) (xs (j + 2)) (xs (j + 3)) τ = some (_, τ') := hM
        exact y_c18 X0 hj7 hS1 hM1 kk
      · refine x_tableIn (tgt := 813) (off := 780) B dL_law_33 (by decide) (by decide) (by decide) (by decide) ?_
        have hS1 : fX7_inches (xs (j + 1)) (xs (j + 2)) (xs (j + 3)) (xs (j + 4)) σ = some (r, σ') := hS
        have hM1 : fX8_inches (xs (j + 1)) (xs (j + 2)) (xs (j + 3)) (xs (j + 4)) τ = some (_, τ') := hM
        exact y_c19 X0 hj7 hS1 hM1 kk
      · refine x_tableIn (tgt := 866) (off := 833) B dL_law_33 (by decide) (by decide) (by decide) (by decide) ?_
        have hS1 : fX7_sorts (xs (j + 1)) (xs (j + 2)) (xs (j + 3)) (xs (j + 4)) σ = some (r, σ') := hS
        have hM1 : fX8_sorts (xs (j + 1)) (xs (j + 2)) (xs (j + 3)) (xs (j + 4)) τ = some (_, τ') := hM
        exact y_c20 X0 hj7 hS1 hM1 kk
      · refine x_tableIn (tgt := 919) (off := 886) B dL_law_33 (by decide) (by decide) (by decide) (by decide) ?_
        obtain ⟨r1, hS1, e1⟩ := x_ps (show x_p (fX7_saved (xs (j + 1)) σ) (fun r => some (r, σ)) = some (r, σ') from hS)
        cases e1
        obtain ⟨r2, hM1, e2⟩ := x_ps (show x_p (fX8_saved (xs (j + 1)) τ) (fun r => some (r, τ)) = some (_, τ') from hM)
        cases e2
        exact y_c21 (σ' := σ) (τ' := τ) X0 hj7 hS1 hM1 kk
      · refine x_tableIn (tgt := 942) (off := 909) B dL_law_33 (by decide) (by decide) (by decide) (by decide) ?_
        obtain ⟨r1, hS1, e1⟩ := x_ps (show x_p (fX7_worst (xs (j + 1)) (xs (j + 2)) σ) (fun r => some (r, σ)) = some (r, σ') from hS)
        cases e1
        obtain ⟨r2, hM1, e2⟩ := x_ps (show x_p (fX8_worst (xs (j + 1)) (xs (j + 2)) τ) (fun r => some (r, τ)) = some (_, τ') from hM)
        cases e2
        exact y_c22 (σ' := σ) (τ' := τ) X0 hj7 hS1 hM1 kk
      · refine x_tableIn (tgt := 975) (off := 942) B dL_law_33 (by decide) (by decide) (by decide) (by decide) ?_
        obtain ⟨r1, hS1, e1⟩ := x_ps (show x_p (fX7_tremble (xs (j + 1)) (xs (j + 2)) (xs (j + 3)) (xs (j + 4)) (xs (j + 5)) (xs (j + 6)) σ) (fun r => some (r, σ)) = some (r, σ') from hS)
        cases e1
        obtain ⟨r2, hM1, e2⟩ := x_ps (show x_p (fX8_tremble (xs (j + 1)) (xs (j + 2)) (xs (j + 3)) (xs (j + 4)) (xs (j + 5)) (xs (j + 6)) τ) (fun r => some (r, τ)) = some (_, τ') from hM)
        cases e2
        exact y_c23 (σ' := σ) (τ' := τ) X0 hj7 hS1 hM1 kk
      · refine x_tableIn (tgt := 1050) (off := 1017) B dL_law_33 (by decide) (by decide) (by decide) (by decide) ?_
        have hS1 : fX7_image (xs (j + 1)) σ = some (r, σ') := hS
        have hM1 : fX8_image (xs (j + 1)) τ = some (_, τ') := hM
        exact y_c24 X0 hj7 hS1 hM1 kk
      · refine x_tableIn (tgt := 1073) (off := 1040) B dL_law_33 (by decide) (by decide) (by decide) (by decide) ?_
        have hS1 : fX7_restore (xs (j + 1)) σ = some (r, σ') := hS
        have hM1 : fX8_restore (xs (j + 1)) τ = some (_, τ') := hM
        exact y_c25 X0 hj7 hS1 hM1 kk
      · refine x_tableIn (tgt := 1096) (off := 1063) B dL_law_33 (by decide) (by decide) (by decide) (by decide) ?_
        obtain ⟨r1, hS1, e1⟩ := x_ps (show x_p (fX7_kind (xs (j + 1)) σ) (fun r => some (r, σ)) = some (r, σ') from hS)
        cases e1
        obtain ⟨r2, hM1, e2⟩ := x_ps (show x_p (fX8_kind (xs (j + 1)) τ) (fun r => some (r, τ)) = some (_, τ') from hM)
        cases e2
        exact y_c26 (σ' := σ) (τ' := τ) X0 hj7 hS1 hM1 kk
      · refine x_tableIn (tgt := 1119) (off := 1086) B dL_law_33 (by decide) (by decide) (by decide) (by decide) ?_
        have hS1 : fX7_as (xs (j + 1)) (xs (j + 2)) σ = some (r, σ') := hS
        have hM1 : fX8_as (xs (j + 1)) (xs (j + 2)) τ = some (_, τ') := hM
        exact y_c27 X0 hj7 hS1 hM1 kk
      · refine x_tableIn (tgt := 1152) (off := 1119) B dL_law_33 (by decide) (by decide) (by decide) (by decide) ?_
        have hS1 : fX7_ask (xs (j + 1)) (xs (j + 2)) σ = some (r, σ') := hS
        have hM1 : fX8_ask (xs (j + 1)) (xs (j + 2)) τ = some (_, τ') := hM
        exact y_c28 X0 hj7 hS1 hM1 kk
      · refine x_tableIn (tgt := 1185) (off := 1152) B dL_law_33 (by decide) (by decide) (by decide) (by decide) ?_
        obtain ⟨r1, hS1, e1⟩ := x_ps (show x_p (fX7_trace (xs (j + 1)) σ) (fun r => some (r, σ)) = some (r, σ') from hS)
        cases e1
        obtain ⟨r2, hM1, e2⟩ := x_ps (show x_p (fX8_trace (xs (j + 1)) τ) (fun r => some (r, τ)) = some (_, τ') from hM)
        cases e2
        exact y_c29 (σ' := σ) (τ' := τ) X0 hj7 hS1 hM1 kk
      · refine x_tableIn (tgt := 1208) (off := 1175) B dL_law_33 (by decide) (by decide) (by decide) (by decide) ?_
        obtain ⟨r1, hS1, e1⟩ := x_ps (show x_p (fX7_count (xs (j + 1)) σ) (fun r => some (r, σ)) = some (r, σ') from hS)
        cases e1
        obtain ⟨r2, hM1, e2⟩ := x_ps (show x_p (fX8_count (xs (j + 1)) τ) (fun r => some (r, τ)) = some (_, τ') from hM)
        cases e2
        exact y_c30 (σ' := σ) (τ' := τ) X0 hj7 hS1 hM1 kk
      · refine x_tableIn (tgt := 1231) (off := 1198) B dL_law_33 (by decide) (by decide) (by decide) (by decide) ?_
        obtain ⟨r1, hS1, e1⟩ := x_ps (show x_p (fX7_status σ) (fun r => some (r, σ)) = some (r, σ') from hS)
        cases e1
        obtain ⟨r2, hM1, e2⟩ := x_ps (show x_p (fX8_status τ) (fun r => some (r, τ)) = some (_, τ') from hM)
        cases e2
        exact y_c31 (σ' := σ) (τ' := τ) X0 hj7 hS1 hM1 kk
end LP
