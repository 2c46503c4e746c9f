section LW
variable {p : Program} {l : Launch} {e : Env} {s : State} {m : MethodId} {below : List Frame} {meth : Method} {c : Code} {cells slots : Nat} {Q : State → Prop}
variable {D : va_G} {cI cQ cC cZ : ClassId} {ad aS am : Nat → Nat} {b L : Nat} {xs : Nat → Int32}
/-- both worlds -/
def y_I (D : va_G) (cI cQ cC cZ : ClassId) (ad am : Nat → Nat) (σ τ : x_S) : Heap → Prop := fun H => x_I D vwCl s_N (s_C cI cQ cC ad) ad σ H ∧ x_I D vwCl m_N (m_C cI cZ am) am τ H
def y_A (s : State) : Nat → Prop := fun q => s.heap.size ≤ q
/-- what the law's loop may use -/
def y_X (p : Program) (s : State) (m : MethodId) (meth : Method) (c : Code) (D : va_G) (cI cQ cC cZ : ClassId) (ad aS am : Nat → Nat) (b L : Nat) (xs : Nat → Int32) (cells slots : Nat) : Prop :=
  x_B p s m #[Value.ref b] meth c code 4 wsL_law RL ∧ x_H s D vwCl (s_tys cI cQ cC cZ) s_N ad (y_A s) (s_St aS) s_NW ∧ x_H s D vwCl (s_tys cI cQ cC cZ) m_N am (y_A s) m_St m_NW ∧ (∀ i j, i < s_N → j < m_N → ad i ≠ am j) ∧ va_X b L xs s s.heap ∧ b < s.heap.size ∧ L ≤ 448 ∧ cells ≤ 600000 ∧ slots ≤ 7302250 ∧ meth.sig.returnType = ret
set_option maxRecDepth 100000 in
set_option maxHeartbeats 4000000 in
theorem y_c0 {σ σ' τ τ' : x_S} {r : Int32} {j : Nat} (X : y_X p s m meth c D cI cQ cC cZ ad aS am b L xs cells slots) (hj : j + 7 ≤ L) (hS : fX7_row (xs (j + 1)) (xs (j + 2)) (xs (j + 3)) σ = some (r, σ')) (hM : fX8_row (xs (j + 1)) (xs (j + 2)) (xs (j + 3)) τ = some (r, τ')) (kk : x_J p l e room_1 s m #[Value.ref b] below meth c cells slots Q (y_A s) 4 (y_I D cI cQ cC cZ ad am σ' τ') [(0, .ref b), (1, .ref (ad 0)), (2, .ref (am 0)), (3, .int (nI j))] [] 1244) : x_J p l e room_1 s m #[Value.ref b] below meth c cells slots Q (y_A s) 4 (y_I D cI cQ cC cZ ad am σ τ) [(0, .ref b), (1, .ref (ad 0)), (2, .ref (am 0)), (3, .int (nI j))] [] 176 := by
  obtain ⟨B, GS, GM, hdj, hX, hbl, hL, hcl, hsl, hr⟩ := X
  have hbA : ¬ y_A s b := Nat.not_le.mpr hbl
  refine x_aload_n B dL_law_176 rfl 1 rfl ?_
  refine x_aload_n B dL_law_177 rfl 0 rfl ?_
  refine x_iload_n B dL_law_178 rfl 3 rfl ?_
  refine x_iconst (v := 1) B dL_law_179 (by decide) ?_
  refine x_iadd B dL_law_180 ?_
  refine y_sld B hX hbl hbA (j := j + 1) (nI_add j 1) (by omega) hL dL_law_181 ?_
  refine x_aload_n B dL_law_182 rfl 0 rfl ?_
  refine x_iload_n B dL_law_183 rfl 3 rfl ?_
  refine x_iconst (v := 2) B dL_law_184 (by decide) ?_
  refine x_iadd B dL_law_185 ?_
  refine y_sld B hX hbl hbA (j := j + 2) (nI_add j 2) (by omega) hL dL_law_186 ?_
  refine x_aload_n B dL_law_187 rfl 0 rfl ?_
  refine x_iload_n B dL_law_188 rfl 3 rfl ?_
  refine x_iconst (v := 3) B dL_law_189 (by decide) ?_
  refine x_iadd B dL_law_190 ?_
  refine y_sld B hX hbl hbA (j := j + 3) (nI_add j 3) (by omega) hL dL_law_191 ?_
  refine y_call (As := [.int (xs (j + 1)), .int (xs (j + 2)), .int (xs (j + 3))]) (st := []) B GS (y_kept hdj) (mX7_row (l := l) (aS := aS) GS.1.2.1 hS) (cwV 3 B.2.2.2.2.1 gL_law_X7_row rfl rfl rfl hdX7_row ⟨Nat.le_of_ble_eq_true rfl, Nat.le_of_ble_eq_true rfl⟩) (by decide) s_c0 rfl rfl rfl (Nat.le_of_ble_eq_true rfl) ⟨hcl, hsl⟩ dL_law_192 ?_
  refine x_aload_n B dL_law_195 rfl 2 rfl ?_
  refine x_aload_n B dL_law_196 rfl 0 rfl ?_
  refine x_iload_n B dL_law_197 rfl 3 rfl ?_
  refine x_iconst (v := 1) B dL_law_198 (by decide) ?_
  refine x_iadd B dL_law_199 ?_
  refine y_sld B hX hbl hbA (j := j + 1) (nI_add j 1) (by omega) hL dL_law_200 ?_
  refine x_aload_n B dL_law_201 rfl 0 rfl ?_
  refine x_iload_n B dL_law_202 rfl 3 rfl ?_
  refine x_iconst (v := 2) B dL_law_203 (by decide) ?_
  refine x_iadd B dL_law_204 ?_
  refine y_sld B hX hbl hbA (j := j + 2) (nI_add j 2) (by omega) hL dL_law_205 ?_
  refine x_aload_n B dL_law_206 rfl 0 rfl ?_
  refine x_iload_n B dL_law_207 rfl 3 rfl ?_
  refine x_iconst (v := 3) B dL_law_208 (by decide) ?_
  refine x_iadd B dL_law_209 ?_
  refine y_sld B hX hbl hbA (j := j + 3) (nI_add j 3) (by omega) hL dL_law_210 ?_
  refine y_swap ?_
  refine y_call (As := [.int (xs (j + 1)), .int (xs (j + 2)), .int (xs (j + 3))]) (st := [.int r]) B GM (y_kept (fun i j hi hj e => hdj j i hj hi e.symm)) (mX8_row (l := l) GM.1.2.1 hM) (cwV 3 B.2.2.2.2.1 gL_law_X8_row rfl rfl rfl hdX8_row ⟨Nat.le_of_ble_eq_true rfl, Nat.le_of_ble_eq_true rfl⟩) (by decide) m_c0 rfl rfl rfl (Nat.le_of_ble_eq_true rfl) ⟨hcl, hsl⟩ dL_law_211 ?_
  refine y_swap ?_
  refine x_icmp_eq (tgt := 1244) B dL_law_214 (by decide) (fun _ => ?_) (fun hne => absurd rfl hne)
  exact kk
set_option maxRecDepth 100000 in
set_option maxHeartbeats 4000000 in
theorem y_c1 {σ σ' τ τ' : x_S} {r : Int32} {j : Nat} (X : y_X p s m meth c D cI cQ cC cZ ad aS am b L xs cells slots) (hj : j + 7 ≤ L) (hS : fX7_set (xs (j + 1)) (xs (j + 2)) (xs (j + 3)) σ = some (r, σ')) (hM : fX8_set (xs (j + 1)) (xs (j + 2)) (xs (j + 3)) τ = some (r, τ')) (kk : x_J p l e room_1 s m #[Value.ref b] below meth c cells slots Q (y_A s) 4 (y_I D cI cQ cC cZ ad am σ' τ') [(0, .ref b), (1, .ref (ad 0)), (2, .ref (am 0)), (3, .int (nI j))] [] 1244) : x_J p l e room_1 s m #[Value.ref b] below meth c cells slots Q (y_A s) 4 (y_I D cI cQ cC cZ ad am σ τ) [(0, .ref b), (1, .ref (ad 0)), (2, .ref (am 0)), (3, .int (nI j))] [] 219 := by
  obtain ⟨B, GS, GM, hdj, hX, hbl, hL, hcl, hsl, hr⟩ := X
  have hbA : ¬ y_A s b := Nat.not_le.mpr hbl
  refine x_aload_n B dL_law_219 rfl 1 rfl ?_
  refine x_aload_n B dL_law_220 rfl 0 rfl ?_
  refine x_iload_n B dL_law_221 rfl 3 rfl ?_
  refine x_iconst (v := 1) B dL_law_222 (by decide) ?_
  refine x_iadd B dL_law_223 ?_
  refine y_sld B hX hbl hbA (j := j + 1) (nI_add j 1) (by omega) hL dL_law_224 ?_
  refine x_aload_n B dL_law_225 rfl 0 rfl ?_
  refine x_iload_n B dL_law_226 rfl 3 rfl ?_
  refine x_iconst (v := 2) B dL_law_227 (by decide) ?_
  refine x_iadd B dL_law_228 ?_
  refine y_sld B hX hbl hbA (j := j + 2) (nI_add j 2) (by omega) hL dL_law_229 ?_
  refine x_aload_n B dL_law_230 rfl 0 rfl ?_
  refine x_iload_n B dL_law_231 rfl 3 rfl ?_
  refine x_iconst (v := 3) B dL_law_232 (by decide) ?_
  refine x_iadd B dL_law_233 ?_
  refine y_sld B hX hbl hbA (j := j + 3) (nI_add j 3) (by omega) hL dL_law_234 ?_
  refine y_call (As := [.int (xs (j + 1)), .int (xs (j + 2)), .int (xs (j + 3))]) (st := []) B GS (y_kept hdj) (mX7_set (l := l) (aS := aS) GS.1.2.1 hS) (cwV 3 B.2.2.2.2.1 gL_law_X7_set rfl rfl rfl hdX7_set ⟨Nat.le_of_ble_eq_true rfl, Nat.le_of_ble_eq_true rfl⟩) (by decide) s_c0 rfl rfl rfl (Nat.le_of_ble_eq_true rfl) ⟨hcl, hsl⟩ dL_law_235 ?_
  refine x_aload_n B dL_law_238 rfl 2 rfl ?_
  refine x_aload_n B dL_law_239 rfl 0 rfl ?_
  refine x_iload_n B dL_law_240 rfl 3 rfl ?_
  refine x_iconst (v := 1) B dL_law_241 (by decide) ?_
  refine x_iadd B dL_law_242 ?_
  refine y_sld B hX hbl hbA (j := j + 1) (nI_add j 1) (by omega) hL dL_law_243 ?_
  refine x_aload_n B dL_law_244 rfl 0 rfl ?_
  refine x_iload_n B dL_law_245 rfl 3 rfl ?_
  refine x_iconst (v := 2) B dL_law_246 (by decide) ?_
  refine x_iadd B dL_law_247 ?_
  refine y_sld B hX hbl hbA (j := j + 2) (nI_add j 2) (by omega) hL dL_law_248 ?_
  refine x_aload_n B dL_law_249 rfl 0 rfl ?_
  refine x_iload_n B dL_law_250 rfl 3 rfl ?_
  refine x_iconst (v := 3) B dL_law_251 (by decide) ?_
  refine x_iadd B dL_law_252 ?_
  refine y_sld B hX hbl hbA (j := j + 3) (nI_add j 3) (by omega) hL dL_law_253 ?_
  refine y_swap ?_
  refine y_call (As := [.int (xs (j + 1)), .int (xs (j + 2)), .int (xs (j + 3))]) (st := [.int r]) B GM (y_kept (fun i j hi hj e => hdj j i hj hi e.symm)) (mX8_set (l := l) GM.1.2.1 hM) (cwV 3 B.2.2.2.2.1 gL_law_X8_set rfl rfl rfl hdX8_set ⟨Nat.le_of_ble_eq_true rfl, Nat.le_of_ble_eq_true rfl⟩) (by decide) m_c0 rfl rfl rfl (Nat.le_of_ble_eq_true rfl) ⟨hcl, hsl⟩ dL_law_254 ?_
  refine y_swap ?_
  refine x_icmp_eq (tgt := 1244) B dL_law_257 (by decide) (fun _ => ?_) (fun hne => absurd rfl hne)
  exact kk
set_option maxRecDepth 100000 in
set_option maxHeartbeats 4000000 in
theorem y_c2 {σ σ' τ τ' : x_S} {r : Int32} {j : Nat} (X : y_X p s m meth c D cI cQ cC cZ ad aS am b L xs cells slots) (hj : j + 7 ≤ L) (hS : fX7_copy (xs (j + 1)) (xs (j + 2)) (xs (j + 3)) (xs (j + 4)) (xs (j + 5)) σ = some (r, σ')) (hM : fX8_copy (xs (j + 1)) (xs (j + 2)) (xs (j + 3)) (xs (j + 4)) (xs (j + 5)) τ = some (r, τ')) (kk : x_J p l e room_1 s m #[Value.ref b] below meth c cells slots Q (y_A s) 4 (y_I D cI cQ cC cZ ad am σ' τ') [(0, .ref b), (1, .ref (ad 0)), (2, .ref (am 0)), (3, .int (nI j))] [] 1244) : x_J p l e room_1 s m #[Value.ref b] below meth c cells slots Q (y_A s) 4 (y_I D cI cQ cC cZ ad am σ τ) [(0, .ref b), (1, .ref (ad 0)), (2, .ref (am 0)), (3, .int (nI j))] [] 262 := by
  obtain ⟨B, GS, GM, hdj, hX, hbl, hL, hcl, hsl, hr⟩ := X
  have hbA : ¬ y_A s b := Nat.not_le.mpr hbl
  refine x_aload_n B dL_law_262 rfl 1 rfl ?_
  refine x_aload_n B dL_law_263 rfl 0 rfl ?_
  refine x_iload_n B dL_law_264 rfl 3 rfl ?_
  refine x_iconst (v := 1) B dL_law_265 (by decide) ?_
  refine x_iadd B dL_law_266 ?_
  refine y_sld B hX hbl hbA (j := j + 1) (nI_add j 1) (by omega) hL dL_law_267 ?_
  refine x_aload_n B dL_law_268 rfl 0 rfl ?_
  refine x_iload_n B dL_law_269 rfl 3 rfl ?_
  refine x_iconst (v := 2) B dL_law_270 (by decide) ?_
  refine x_iadd B dL_law_271 ?_
  refine y_sld B hX hbl hbA (j := j + 2) (nI_add j 2) (by omega) hL dL_law_272 ?_
  refine x_aload_n B dL_law_273 rfl 0 rfl ?_
  refine x_iload_n B dL_law_274 rfl 3 rfl ?_
  refine x_iconst (v := 3) B dL_law_275 (by decide) ?_
  refine x_iadd B dL_law_276 ?_
  refine y_sld B hX hbl hbA (j := j + 3) (nI_add j 3) (by omega) hL dL_law_277 ?_
  refine x_aload_n B dL_law_278 rfl 0 rfl ?_
  refine x_iload_n B dL_law_279 rfl 3 rfl ?_
  refine x_iconst (v := 4) B dL_law_280 (by decide) ?_
  refine x_iadd B dL_law_281 ?_
  refine y_sld B hX hbl hbA (j := j + 4) (nI_add j 4) (by omega) hL dL_law_282 ?_
  refine x_aload_n B dL_law_283 rfl 0 rfl ?_
  refine x_iload_n B dL_law_284 rfl 3 rfl ?_
  refine x_iconst (v := 5) B dL_law_285 (by decide) ?_
  refine x_iadd B dL_law_286 ?_
  refine y_sld B hX hbl hbA (j := j + 5) (nI_add j 5) (by omega) hL dL_law_287 ?_
  refine y_call (As := [.int (xs (j + 1)), .int (xs (j + 2)), .int (xs (j + 3)), .int (xs (j + 4)), .int (xs (j + 5))]) (st := []) B GS (y_kept hdj) (mX7_copy (l := l) (aS := aS) GS.1.2.1 hS) (cwV 5 B.2.2.2.2.1 gL_law_X7_copy rfl rfl rfl hdX7_copy ⟨Nat.le_of_ble_eq_true rfl, Nat.le_of_ble_eq_true rfl⟩) (by decide) s_c0 rfl rfl rfl (Nat.le_of_ble_eq_true rfl) ⟨hcl, hsl⟩ dL_law_288 ?_
  refine x_aload_n B dL_law_291 rfl 2 rfl ?_
  refine x_aload_n B dL_law_292 rfl 0 rfl ?_
  refine x_iload_n B dL_law_293 rfl 3 rfl ?_
  refine x_iconst (v := 1) B dL_law_294 (by decide) ?_
  refine x_iadd B dL_law_295 ?_
  refine y_sld B hX hbl hbA (j := j + 1) (nI_add j 1) (by omega) hL dL_law_296 ?_
  refine x_aload_n B dL_law_297 rfl 0 rfl ?_
  refine x_iload_n B dL_law_298 rfl 3 rfl ?_
  refine x_iconst (v := 2) B dL_law_299 (by decide) ?_
  refine x_iadd B dL_law_300 ?_
  refine y_sld B hX hbl hbA (j := j + 2) (nI_add j 2) (by omega) hL dL_law_301 ?_
  refine x_aload_n B dL_law_302 rfl 0 rfl ?_
  refine x_iload_n B dL_law_303 rfl 3 rfl ?_
  refine x_iconst (v := 3) B dL_law_304 (by decide) ?_
  refine x_iadd B dL_law_305 ?_
  refine y_sld B hX hbl hbA (j := j + 3) (nI_add j 3) (by omega) hL dL_law_306 ?_
  refine x_aload_n B dL_law_307 rfl 0 rfl ?_
  refine x_iload_n B dL_law_308 rfl 3 rfl ?_
  refine x_iconst (v := 4) B dL_law_309 (by decide) ?_
  refine x_iadd B dL_law_310 ?_
  refine y_sld B hX hbl hbA (j := j + 4) (nI_add j 4) (by omega) hL dL_law_311 ?_
  refine x_aload_n B dL_law_312 rfl 0 rfl ?_
  refine x_iload_n B dL_law_313 rfl 3 rfl ?_
  refine x_iconst (v := 5) B dL_law_314 (by decide) ?_
  refine x_iadd B dL_law_315 ?_
  refine y_sld B hX hbl hbA (j := j + 5) (nI_add j 5) (by omega) hL dL_law_316 ?_
  refine y_swap ?_
  refine y_call (As := [.int (xs (j + 1)), .int (xs (j + 2)), .int (xs (j + 3)), .int (xs (j + 4)), .int (xs (j + 5))]) (st := [.int r]) B GM (y_kept (fun i j hi hj e => hdj j i hj hi e.symm)) (mX8_copy (l := l) GM.1.2.1 hM) (cwV 5 B.2.2.2.2.1 gL_law_X8_copy rfl rfl rfl hdX8_copy ⟨Nat.le_of_ble_eq_true rfl, Nat.le_of_ble_eq_true rfl⟩) (by decide) m_c0 rfl rfl rfl (Nat.le_of_ble_eq_true rfl) ⟨hcl, hsl⟩ dL_law_317 ?_
  refine y_swap ?_
  refine x_icmp_eq (tgt := 1244) B dL_law_320 (by decide) (fun _ => ?_) (fun hne => absurd rfl hne)
  exact kk
set_option maxRecDepth 100000 in
set_option maxHeartbeats 4000000 in
theorem y_c3 {σ σ' τ τ' : x_S} {r : Int32} {j : Nat} (X : y_X p s m meth c D cI cQ cC cZ ad aS am b L xs cells slots) (hj : j + 7 ≤ L) (hS : fX7_drop (xs (j + 1)) σ = some (r, σ')) (hM : fX8_drop (xs (j + 1)) τ = some (r, τ')) (kk : x_J p l e room_1 s m #[Value.ref b] below meth c cells slots Q (y_A s) 4 (y_I D cI cQ cC cZ ad am σ' τ') [(0, .ref b), (1, .ref (ad 0)), (2, .ref (am 0)), (3, .int (nI j))] [] 1244) : x_J p l e room_1 s m #[Value.ref b] below meth c cells slots Q (y_A s) 4 (y_I D cI cQ cC cZ ad am σ τ) [(0, .ref b), (1, .ref (ad 0)), (2, .ref (am 0)), (3, .int (nI j))] [] 325 := by
  obtain ⟨B, GS, GM, hdj, hX, hbl, hL, hcl, hsl, hr⟩ := X
  have hbA : ¬ y_A s b := Nat.not_le.mpr hbl
  refine x_aload_n B dL_law_325 rfl 1 rfl ?_
  refine x_aload_n B dL_law_326 rfl 0 rfl ?_
  refine x_iload_n B dL_law_327 rfl 3 rfl ?_
  refine x_iconst (v := 1) B dL_law_328 (by decide) ?_
  refine x_iadd B dL_law_329 ?_
  refine y_sld B hX hbl hbA (j := j + 1) (nI_add j 1) (by omega) hL dL_law_330 ?_
  refine y_call (As := [.int (xs (j + 1))]) (st := []) B GS (y_kept hdj) (mX7_drop (l := l) (aS := aS) GS.1.2.1 hS) (cwV 1 B.2.2.2.2.1 gL_law_X7_drop rfl rfl rfl hdX7_drop ⟨Nat.le_of_ble_eq_true rfl, Nat.le_of_ble_eq_true rfl⟩) (by decide) s_c0 rfl rfl rfl (Nat.le_of_ble_eq_true rfl) ⟨hcl, hsl⟩ dL_law_331 ?_
  refine x_aload_n B dL_law_334 rfl 2 rfl ?_
  refine x_aload_n B dL_law_335 rfl 0 rfl ?_
  refine x_iload_n B dL_law_336 rfl 3 rfl ?_
  refine x_iconst (v := 1) B dL_law_337 (by decide) ?_
  refine x_iadd B dL_law_338 ?_
  refine y_sld B hX hbl hbA (j := j + 1) (nI_add j 1) (by omega) hL dL_law_339 ?_
  refine y_swap ?_
  refine y_call (As := [.int (xs (j + 1))]) (st := [.int r]) B GM (y_kept (fun i j hi hj e => hdj j i hj hi e.symm)) (mX8_drop (l := l) GM.1.2.1 hM) (cwV 1 B.2.2.2.2.1 gL_law_X8_drop rfl rfl rfl hdX8_drop ⟨Nat.le_of_ble_eq_true rfl, Nat.le_of_ble_eq_true rfl⟩) (by decide) m_c0 rfl rfl rfl (Nat.le_of_ble_eq_true rfl) ⟨hcl, hsl⟩ dL_law_340 ?_
  refine y_swap ?_
  refine x_icmp_eq (tgt := 1244) B dL_law_343 (by decide) (fun _ => ?_) (fun hne => absurd rfl hne)
  exact kk
set_option maxRecDepth 100000 in
set_option maxHeartbeats 4000000 in
theorem y_c4 {σ σ' τ τ' : x_S} {r : Int32} {j : Nat} (X : y_X p s m meth c D cI cQ cC cZ ad aS am b L xs cells slots) (hj : j + 7 ≤ L) (hS : fX7_feed (xs (j + 1)) σ = some (r, σ')) (hM : fX8_feed (xs (j + 1)) τ = some (r, τ')) (kk : x_J p l e room_1 s m #[Value.ref b] below meth c cells slots Q (y_A s) 4 (y_I D cI cQ cC cZ ad am σ' τ') [(0, .ref b), (1, .ref (ad 0)), (2, .ref (am 0)), (3, .int (nI j))] [] 1244) : x_J p l e room_1 s m #[Value.ref b] below meth c cells slots Q (y_A s) 4 (y_I D cI cQ cC cZ ad am σ τ) [(0, .ref b), (1, .ref (ad 0)), (2, .ref (am 0)), (3, .int (nI j))] [] 348 := by
  obtain ⟨B, GS, GM, hdj, hX, hbl, hL, hcl, hsl, hr⟩ := X
  have hbA : ¬ y_A s b := Nat.not_le.mpr hbl
  refine x_aload_n B dL_law_348 rfl 1 rfl ?_
  refine x_aload_n B dL_law_349 rfl 0 rfl ?_
  refine x_iload_n B dL_law_350 rfl 3 rfl ?_
  refine x_iconst (v := 1) B dL_law_351 (by decide) ?_
  refine x_iadd B dL_law_352 ?_
  refine y_sld B hX hbl hbA (j := j + 1) (nI_add j 1) (by omega) hL dL_law_353 ?_
  refine y_call (As := [.int (xs (j + 1))]) (st := []) B GS (y_kept hdj) (mX7_feed (l := l) (aS := aS) GS.1.2.1 hS) (cwV 1 B.2.2.2.2.1 gL_law_X7_feed rfl rfl rfl hdX7_feed ⟨Nat.le_of_ble_eq_true rfl, Nat.le_of_ble_eq_true rfl⟩) (by decide) s_c0 rfl rfl rfl (Nat.le_of_ble_eq_true rfl) ⟨hcl, hsl⟩ dL_law_354 ?_
  refine x_aload_n B dL_law_357 rfl 2 rfl ?_
  refine x_aload_n B dL_law_358 rfl 0 rfl ?_
  refine x_iload_n B dL_law_359 rfl 3 rfl ?_
  refine x_iconst (v := 1) B dL_law_360 (by decide) ?_
  refine x_iadd B dL_law_361 ?_
  refine y_sld B hX hbl hbA (j := j + 1) (nI_add j 1) (by omega) hL dL_law_362 ?_
  refine y_swap ?_
  refine y_call (As := [.int (xs (j + 1))]) (st := [.int r]) B GM (y_kept (fun i j hi hj e => hdj j i hj hi e.symm)) (mX8_feed (l := l) GM.1.2.1 hM) (cwV 1 B.2.2.2.2.1 gL_law_X8_feed rfl rfl rfl hdX8_feed ⟨Nat.le_of_ble_eq_true rfl, Nat.le_of_ble_eq_true rfl⟩) (by decide) m_c0 rfl rfl rfl (Nat.le_of_ble_eq_true rfl) ⟨hcl, hsl⟩ dL_law_363 ?_
  refine y_swap ?_
  refine x_icmp_eq (tgt := 1244) B dL_law_366 (by decide) (fun _ => ?_) (fun hne => absurd rfl hne)
  exact kk
set_option maxRecDepth 100000 in
set_option maxHeartbeats 4000000 in
theorem y_c5 {σ σ' τ τ' : x_S} {r : Int32} {j : Nat} (X : y_X p s m meth c D cI cQ cC cZ ad aS am b L xs cells slots) (hj : j + 7 ≤ L) (hS : fX7_city σ = some (r, σ')) (hM : fX8_city τ = some (r, τ')) (kk : x_J p l e room_1 s m #[Value.ref b] below meth c cells slots Q (y_A s) 4 (y_I D cI cQ cC cZ ad am σ' τ') [(0, .ref b), (1, .ref (ad 0)), (2, .ref (am 0)), (3, .int (nI j))] [] 1244) : x_J p l e room_1 s m #[Value.ref b] below meth c cells slots Q (y_A s) 4 (y_I D cI cQ cC cZ ad am σ τ) [(0, .ref b), (1, .ref (ad 0)), (2, .ref (am 0)), (3, .int (nI j))] [] 371 := by
  obtain ⟨B, GS, GM, hdj, hX, hbl, hL, hcl, hsl, hr⟩ := X
  have hbA : ¬ y_A s b := Nat.not_le.mpr hbl
  refine x_aload_n B dL_law_371 rfl 1 rfl ?_
  refine y_call (As := []) (st := []) B GS (y_kept hdj) (mX7_city (l := l) (aS := aS) GS.1.2.1 hS) (cwV 0 B.2.2.2.2.1 gL_law_X7_city rfl rfl rfl hdX7_city ⟨Nat.le_of_ble_eq_true rfl, Nat.le_of_ble_eq_true rfl⟩) (by decide) s_c0 rfl rfl rfl (Nat.le_of_ble_eq_true rfl) ⟨hcl, hsl⟩ dL_law_372 ?_
  refine x_aload_n B dL_law_375 rfl 2 rfl ?_
  refine y_swap ?_
  refine y_call (As := []) (st := [.int r]) B GM (y_kept (fun i j hi hj e => hdj j i hj hi e.symm)) (mX8_city (l := l) GM.1.2.1 hM) (cwV 0 B.2.2.2.2.1 gL_law_X8_city rfl rfl rfl hdX8_city ⟨Nat.le_of_ble_eq_true rfl, Nat.le_of_ble_eq_true rfl⟩) (by decide) m_c0 rfl rfl rfl (Nat.le_of_ble_eq_true rfl) ⟨hcl, hsl⟩ dL_law_376 ?_
  refine y_swap ?_
  refine x_icmp_eq (tgt := 1244) B dL_law_379 (by decide) (fun _ => ?_) (fun hne => absurd rfl hne)
  exact kk
set_option maxRecDepth 100000 in
set_option maxHeartbeats 4000000 in
theorem y_c6 {σ σ' τ τ' : x_S} {r : Int32} {j : Nat} (X : y_X p s m meth c D cI cQ cC cZ ad aS am b L xs cells slots) (hj : j + 7 ≤ L) (hS : fX7_fault σ = some r) (hM : fX8_fault τ = some r) (kk : x_J p l e room_1 s m #[Value.ref b] below meth c cells slots Q (y_A s) 4 (y_I D cI cQ cC cZ ad am σ τ) [(0, .ref b), (1, .ref (ad 0)), (2, .ref (am 0)), (3, .int (nI j))] [] 1244) : x_J p l e room_1 s m #[Value.ref b] below meth c cells slots Q (y_A s) 4 (y_I D cI cQ cC cZ ad am σ τ) [(0, .ref b), (1, .ref (ad 0)), (2, .ref (am 0)), (3, .int (nI j))] [] 384 := by
  obtain ⟨B, GS, GM, hdj, hX, hbl, hL, hcl, hsl, hr⟩ := X
  have hbA : ¬ y_A s b := Nat.not_le.mpr hbl
  refine x_aload_n B dL_law_384 rfl 1 rfl ?_
  refine y_call (As := []) (st := []) B GS (y_kept hdj) (mX7_fault (l := l) (aS := aS) GS.1.2.1 hS) (cwV 0 B.2.2.2.2.1 gL_law_X7_fault rfl rfl rfl hdX7_fault ⟨Nat.le_of_ble_eq_true rfl, Nat.le_of_ble_eq_true rfl⟩) (by decide) s_c0 rfl rfl rfl (Nat.le_of_ble_eq_true rfl) ⟨hcl, hsl⟩ dL_law_385 ?_
  refine x_aload_n B dL_law_388 rfl 2 rfl ?_
  refine y_swap ?_
  refine y_call (As := []) (st := [.int r]) B GM (y_kept (fun i j hi hj e => hdj j i hj hi e.symm)) (mX8_fault (l := l) GM.1.2.1 hM) (cwV 0 B.2.2.2.2.1 gL_law_X8_fault rfl rfl rfl hdX8_fault ⟨Nat.le_of_ble_eq_true rfl, Nat.le_of_ble_eq_true rfl⟩) (by decide) m_c0 rfl rfl rfl (Nat.le_of_ble_eq_true rfl) ⟨hcl, hsl⟩ dL_law_389 ?_
  refine y_swap ?_
  refine x_icmp_eq (tgt := 1244) B dL_law_392 (by decide) (fun _ => ?_) (fun hne => absurd rfl hne)
  exact kk
set_option maxRecDepth 100000 in
set_option maxHeartbeats 4000000 in
theorem y_c7 {σ σ' τ τ' : x_S} {r : Int32} {j : Nat} (X : y_X p s m meth c D cI cQ cC cZ ad aS am b L xs cells slots) (hj : j + 7 ≤ L) (hS : fX7_make (xs (j + 1)) (xs (j + 2)) σ = some (r, σ')) (hM : fX8_make (xs (j + 1)) (xs (j + 2)) τ = some (r, τ')) (kk : x_J p l e room_1 s m #[Value.ref b] below meth c cells slots Q (y_A s) 4 (y_I D cI cQ cC cZ ad am σ' τ') [(0, .ref b), (1, .ref (ad 0)), (2, .ref (am 0)), (3, .int (nI j))] [] 1244) : x_J p l e room_1 s m #[Value.ref b] below meth c cells slots Q (y_A s) 4 (y_I D cI cQ cC cZ ad am σ τ) [(0, .ref b), (1, .ref (ad 0)), (2, .ref (am 0)), (3, .int (nI j))] [] 397 := by
  obtain ⟨B, GS, GM, hdj, hX, hbl, hL, hcl, hsl, hr⟩ := X
  have hbA : ¬ y_A s b := Nat.not_le.mpr hbl
  refine x_aload_n B dL_law_397 rfl 1 rfl ?_
  refine x_aload_n B dL_law_398 rfl 0 rfl ?_
  refine x_iload_n B dL_law_399 rfl 3 rfl ?_
  refine x_iconst (v := 1) B dL_law_400 (by decide) ?_
  refine x_iadd B dL_law_401 ?_
  refine y_sld B hX hbl hbA (j := j + 1) (nI_add j 1) (by omega) hL dL_law_402 ?_
  refine x_aload_n B dL_law_403 rfl 0 rfl ?_
  refine x_iload_n B dL_law_404 rfl 3 rfl ?_
  refine x_iconst (v := 2) B dL_law_405 (by decide) ?_
  refine x_iadd B dL_law_406 ?_
  refine y_sld B hX hbl hbA (j := j + 2) (nI_add j 2) (by omega) hL dL_law_407 ?_
  refine y_call (As := [.int (xs (j + 1)), .int (xs (j + 2))]) (st := []) B GS (y_kept hdj) (mX7_make (l := l) (aS := aS) GS.1.2.1 hS) (cwV 2 B.2.2.2.2.1 gL_law_X7_make rfl rfl rfl hdX7_make ⟨Nat.le_of_ble_eq_true rfl, Nat.le_of_ble_eq_true rfl⟩) (by decide) s_c0 rfl rfl rfl (Nat.le_of_ble_eq_true rfl) ⟨hcl, hsl⟩ dL_law_408 ?_
  refine x_aload_n B dL_law_411 rfl 2 rfl ?_
  refine x_aload_n B dL_law_412 rfl 0 rfl ?_
  refine x_iload_n B dL_law_413 rfl 3 rfl ?_
  refine x_iconst (v := 1) B dL_law_414 (by decide) ?_
  refine x_iadd B dL_law_415 ?_
  refine y_sld B hX hbl hbA (j := j + 1) (nI_add j 1) (by omega) hL dL_law_416 ?_
  refine x_aload_n B dL_law_417 rfl 0 rfl ?_
  refine x_iload_n B dL_law_418 rfl 3 rfl ?_
  refine x_iconst (v := 2) B dL_law_419 (by decide) ?_
  refine x_iadd B dL_law_420 ?_
  refine y_sld B hX hbl hbA (j := j + 2) (nI_add j 2) (by omega) hL dL_law_421 ?_
  refine y_swap ?_
  refine y_call (As := [.int (xs (j + 1)), .int (xs (j + 2))]) (st := [.int r]) B GM (y_kept (fun i j hi hj e => hdj j i hj hi e.symm)) (mX8_make (l := l) GM.1.2.1 hM) (cwV 2 B.2.2.2.2.1 gL_law_X8_make rfl rfl rfl hdX8_make ⟨Nat.le_of_ble_eq_true rfl, Nat.le_of_ble_eq_true rfl⟩) (by decide) m_c0 rfl rfl rfl (Nat.le_of_ble_eq_true rfl) ⟨hcl, hsl⟩ dL_law_422 ?_
  refine y_swap ?_
  refine x_icmp_eq (tgt := 1244) B dL_law_425 (by decide) (fun _ => ?_) (fun hne => absurd rfl hne)
  exact kk
set_option maxRecDepth 100000 in
set_option maxHeartbeats 4000000 in
theorem y_c8 {σ σ' τ τ' : x_S} {r : Int32} {j : Nat} (X : y_X p s m meth c D cI cQ cC cZ ad aS am b L xs cells slots) (hj : j + 7 ≤ L) (hS : fX7_dim (xs (j + 1)) (xs (j + 2)) σ = some (r, σ')) (hM : fX8_dim (xs (j + 1)) (xs (j + 2)) τ = some (r, τ')) (kk : x_J p l e room_1 s m #[Value.ref b] below meth c cells slots Q (y_A s) 4 (y_I D cI cQ cC cZ ad am σ' τ') [(0, .ref b), (1, .ref (ad 0)), (2, .ref (am 0)), (3, .int (nI j))] [] 1244) : x_J p l e room_1 s m #[Value.ref b] below meth c cells slots Q (y_A s) 4 (y_I D cI cQ cC cZ ad am σ τ) [(0, .ref b), (1, .ref (ad 0)), (2, .ref (am 0)), (3, .int (nI j))] [] 430 := by
  obtain ⟨B, GS, GM, hdj, hX, hbl, hL, hcl, hsl, hr⟩ := X
  have hbA : ¬ y_A s b := Nat.not_le.mpr hbl
  refine x_aload_n B dL_law_430 rfl 1 rfl ?_
  refine x_aload_n B dL_law_431 rfl 0 rfl ?_
  refine x_iload_n B dL_law_432 rfl 3 rfl ?_
  refine x_iconst (v := 1) B dL_law_433 (by decide) ?_
  refine x_iadd B dL_law_434 ?_
  refine y_sld B hX hbl hbA (j := j + 1) (nI_add j 1) (by omega) hL dL_law_435 ?_
  refine x_aload_n B dL_law_436 rfl 0 rfl ?_
  refine x_iload_n B dL_law_437 rfl 3 rfl ?_
  refine x_iconst (v := 2) B dL_law_438 (by decide) ?_
  refine x_iadd B dL_law_439 ?_
  refine y_sld B hX hbl hbA (j := j + 2) (nI_add j 2) (by omega) hL dL_law_440 ?_
  refine y_call (As := [.int (xs (j + 1)), .int (xs (j + 2))]) (st := []) B GS (y_kept hdj) (mX7_dim (l := l) (aS := aS) GS.1.2.1 hS) (cwV 2 B.2.2.2.2.1 gL_law_X7_dim rfl rfl rfl hdX7_dim ⟨Nat.le_of_ble_eq_true rfl, Nat.le_of_ble_eq_true rfl⟩) (by decide) s_c0 rfl rfl rfl (Nat.le_of_ble_eq_true rfl) ⟨hcl, hsl⟩ dL_law_441 ?_
  refine x_aload_n B dL_law_444 rfl 2 rfl ?_
  refine x_aload_n B dL_law_445 rfl 0 rfl ?_
  refine x_iload_n B dL_law_446 rfl 3 rfl ?_
  refine x_iconst (v := 1) B dL_law_447 (by decide) ?_
  refine x_iadd B dL_law_448 ?_
  refine y_sld B hX hbl hbA (j := j + 1) (nI_add j 1) (by omega) hL dL_law_449 ?_
  refine x_aload_n B dL_law_450 rfl 0 rfl ?_
  refine x_iload_n B dL_law_451 rfl 3 rfl ?_
  refine x_iconst (v := 2) B dL_law_452 (by decide) ?_
  refine x_iadd B dL_law_453 ?_
  refine y_sld B hX hbl hbA (j := j + 2) (nI_add j 2) (by omega) hL dL_law_454 ?_
  refine y_swap ?_
  refine y_call (As := [.int (xs (j + 1)), .int (xs (j + 2))]) (st := [.int r]) B GM (y_kept (fun i j hi hj e => hdj j i hj hi e.symm)) (mX8_dim (l := l) GM.1.2.1 hM) (cwV 2 B.2.2.2.2.1 gL_law_X8_dim rfl rfl rfl hdX8_dim ⟨Nat.le_of_ble_eq_true rfl, Nat.le_of_ble_eq_true rfl⟩) (by decide) m_c0 rfl rfl rfl (Nat.le_of_ble_eq_true rfl) ⟨hcl, hsl⟩ dL_law_455 ?_
  refine y_swap ?_
  refine x_icmp_eq (tgt := 1244) B dL_law_458 (by decide) (fun _ => ?_) (fun hne => absurd rfl hne)
  exact kk
set_option maxRecDepth 100000 in
set_option maxHeartbeats 4000000 in
theorem y_c9 {σ σ' τ τ' : x_S} {r : Int32} {j : Nat} (X : y_X p s m meth c D cI cQ cC cZ ad aS am b L xs cells slots) (hj : j + 7 ≤ L) (hS : fX7_train (xs (j + 1)) (xs (j + 2)) σ = some (r, σ')) (hM : fX8_train (xs (j + 1)) (xs (j + 2)) τ = some (r, τ')) (kk : x_J p l e room_1 s m #[Value.ref b] below meth c cells slots Q (y_A s) 4 (y_I D cI cQ cC cZ ad am σ' τ') [(0, .ref b), (1, .ref (ad 0)), (2, .ref (am 0)), (3, .int (nI j))] [] 1244) : x_J p l e room_1 s m #[Value.ref b] below meth c cells slots Q (y_A s) 4 (y_I D cI cQ cC cZ ad am σ τ) [(0, .ref b), (1, .ref (ad 0)), (2, .ref (am 0)), (3, .int (nI j))] [] 463 := by
  obtain ⟨B, GS, GM, hdj, hX, hbl, hL, hcl, hsl, hr⟩ := X
  have hbA : ¬ y_A s b := Nat.not_le.mpr hbl
  refine x_aload_n B dL_law_463 rfl 1 rfl ?_
  refine x_aload_n B dL_law_464 rfl 0 rfl ?_
  refine x_iload_n B dL_law_465 rfl 3 rfl ?_
  refine x_iconst (v := 1) B dL_law_466 (by decide) ?_
  refine x_iadd B dL_law_467 ?_
  refine y_sld B hX hbl hbA (j := j + 1) (nI_add j 1) (by omega) hL dL_law_468 ?_
  refine x_aload_n B dL_law_469 rfl 0 rfl ?_
  refine x_iload_n B dL_law_470 rfl 3 rfl ?_
  refine x_iconst (v := 2) B dL_law_471 (by decide) ?_
  refine x_iadd B dL_law_472 ?_
  refine y_sld B hX hbl hbA (j := j + 2) (nI_add j 2) (by omega) hL dL_law_473 ?_
  refine y_call (As := [.int (xs (j + 1)), .int (xs (j + 2))]) (st := []) B GS (y_kept hdj) (mX7_train (l := l) (aS := aS) GS.1.2.1 hS) (cwV 2 B.2.2.2.2.1 gL_law_X7_train rfl rfl rfl hdX7_train ⟨Nat.le_of_ble_eq_true rfl, Nat.le_of_ble_eq_true rfl⟩) (by decide) s_c0 rfl rfl rfl (Nat.le_of_ble_eq_true rfl) ⟨hcl, hsl⟩ dL_law_474 ?_
  refine x_aload_n B dL_law_477 rfl 2 rfl ?_
  refine x_aload_n B dL_law_478 rfl 0 rfl ?_
  refine x_iload_n B dL_law_479 rfl 3 rfl ?_
  refine x_iconst (v := 1) B dL_law_480 (by decide) ?_
  refine x_iadd B dL_law_481 ?_
  refine y_sld B hX hbl hbA (j := j + 1) (nI_add j 1) (by omega) hL dL_law_482 ?_
  refine x_aload_n B dL_law_483 rfl 0 rfl ?_
  refine x_iload_n B dL_law_484 rfl 3 rfl ?_
  refine x_iconst (v := 2) B dL_law_485 (by decide) ?_
  refine x_iadd B dL_law_486 ?_
  refine y_sld B hX hbl hbA (j := j + 2) (nI_add j 2) (by omega) hL dL_law_487 ?_
  refine y_swap ?_
  refine y_call (As := [.int (xs (j + 1)), .int (xs (j + 2))]) (st := [.int r]) B GM (y_kept (fun i j hi hj e => hdj j i hj hi e.symm)) (mX8_train (l := l) GM.1.2.1 hM) (cwV 2 B.2.2.2.2.1 gL_law_X8_train rfl rfl rfl hdX8_train ⟨Nat.le_of_ble_eq_true rfl, Nat.le_of_ble_eq_true rfl⟩) (by decide) m_c0 rfl rfl rfl (Nat.le_of_ble_eq_true rfl) ⟨hcl, hsl⟩ dL_law_488 ?_
  refine y_swap ?_
  refine x_icmp_eq (tgt := 1244) B dL_law_491 (by decide) (fun _ => ?_) (fun hne => absurd rfl hne)
  exact kk
set_option maxRecDepth 100000 in
set_option maxHeartbeats 4000000 in
theorem y_c10 {σ σ' τ τ' : x_S} {r : Int32} {j : Nat} (X : y_X p s m meth c D cI cQ cC cZ ad aS am b L xs cells slots) (hj : j + 7 ≤ L) (hS : fX7_know (xs (j + 1)) (xs (j + 2)) σ = some (r, σ')) (hM : fX8_know (xs (j + 1)) (xs (j + 2)) τ = some (r, τ')) (kk : x_J p l e room_1 s m #[Value.ref b] below meth c cells slots Q (y_A s) 4 (y_I D cI cQ cC cZ ad am σ' τ') [(0, .ref b), (1, .ref (ad 0)), (2, .ref (am 0)), (3, .int (nI j))] [] 1244) : x_J p l e room_1 s m #[Value.ref b] below meth c cells slots Q (y_A s) 4 (y_I D cI cQ cC cZ ad am σ τ) [(0, .ref b), (1, .ref (ad 0)), (2, .ref (am 0)), (3, .int (nI j))] [] 496 := by
  obtain ⟨B, GS, GM, hdj, hX, hbl, hL, hcl, hsl, hr⟩ := X
  have hbA : ¬ y_A s b := Nat.not_le.mpr hbl
  refine x_aload_n B dL_law_496 rfl 1 rfl ?_
  refine x_aload_n B dL_law_497 rfl 0 rfl ?_
  refine x_iload_n B dL_law_498 rfl 3 rfl ?_
  refine x_iconst (v := 1) B dL_law_499 (by decide) ?_
  refine x_iadd B dL_law_500 ?_
  refine y_sld B hX hbl hbA (j := j + 1) (nI_add j 1) (by omega) hL dL_law_501 ?_
  refine x_aload_n B dL_law_502 rfl 0 rfl ?_
  refine x_iload_n B dL_law_503 rfl 3 rfl ?_
  refine x_iconst (v := 2) B dL_law_504 (by decide) ?_
  refine x_iadd B dL_law_505 ?_
  refine y_sld B hX hbl hbA (j := j + 2) (nI_add j 2) (by omega) hL dL_law_506 ?_
  refine y_call (As := [.int (xs (j + 1)), .int (xs (j + 2))]) (st := []) B GS (y_kept hdj) (mX7_know (l := l) (aS := aS) GS.1.2.1 hS) (cwV 2 B.2.2.2.2.1 gL_law_X7_know rfl rfl rfl hdX7_know ⟨Nat.le_of_ble_eq_true rfl, Nat.le_of_ble_eq_true rfl⟩) (by decide) s_c0 rfl rfl rfl (Nat.le_of_ble_eq_true rfl) ⟨hcl, hsl⟩ dL_law_507 ?_
  refine x_aload_n B dL_law_510 rfl 2 rfl ?_
  refine x_aload_n B dL_law_511 rfl 0 rfl ?_
  refine x_iload_n B dL_law_512 rfl 3 rfl ?_
  refine x_iconst (v := 1) B dL_law_513 (by decide) ?_
  refine x_iadd B dL_law_514 ?_
  refine y_sld B hX hbl hbA (j := j + 1) (nI_add j 1) (by omega) hL dL_law_515 ?_
  refine x_aload_n B dL_law_516 rfl 0 rfl ?_
  refine x_iload_n B dL_law_517 rfl 3 rfl ?_
  refine x_iconst (v := 2) B dL_law_518 (by decide) ?_
  refine x_iadd B dL_law_519 ?_
  refine y_sld B hX hbl hbA (j := j + 2) (nI_add j 2) (by omega) hL dL_law_520 ?_
  refine y_swap ?_
  refine y_call (As := [.int (xs (j + 1)), .int (xs (j + 2))]) (st := [.int r]) B GM (y_kept (fun i j hi hj e => hdj j i hj hi e.symm)) (mX8_know (l := l) GM.1.2.1 hM) (cwV 2 B.2.2.2.2.1 gL_law_X8_know rfl rfl rfl hdX8_know ⟨Nat.le_of_ble_eq_true rfl, Nat.le_of_ble_eq_true rfl⟩) (by decide) m_c0 rfl rfl rfl (Nat.le_of_ble_eq_true rfl) ⟨hcl, hsl⟩ dL_law_521 ?_
  refine y_swap ?_
  refine x_icmp_eq (tgt := 1244) B dL_law_524 (by decide) (fun _ => ?_) (fun hne => absurd rfl hne)
  exact kk
set_option maxRecDepth 100000 in
set_option maxHeartbeats 4000000 in
theorem y_c11 {σ σ' τ τ' : x_S} {r : Int32} {j : Nat} (X : y_X p s m meth c D cI cQ cC cZ ad aS am b L xs cells slots) (hj : j + 7 ≤ L) (hS : fX7_undo σ = some (r, σ')) (hM : fX8_undo τ = some (r, τ')) (kk : x_J p l e room_1 s m #[Value.ref b] below meth c cells slots Q (y_A s) 4 (y_I D cI cQ cC cZ ad am σ' τ') [(0, .ref b), (1, .ref (ad 0)), (2, .ref (am 0)), (3, .int (nI j))] [] 1244) : x_J p l e room_1 s m #[Value.ref b] below meth c cells slots Q (y_A s) 4 (y_I D cI cQ cC cZ ad am σ τ) [(0, .ref b), (1, .ref (ad 0)), (2, .ref (am 0)), (3, .int (nI j))] [] 529 := by
  obtain ⟨B, GS, GM, hdj, hX, hbl, hL, hcl, hsl, hr⟩ := X
  have hbA : ¬ y_A s b := Nat.not_le.mpr hbl
  refine x_aload_n B dL_law_529 rfl 1 rfl ?_
  refine y_call (As := []) (st := []) B GS (y_kept hdj) (mX7_undo (l := l) (aS := aS) GS.1.2.1 hS) (cwV 0 B.2.2.2.2.1 gL_law_X7_undo rfl rfl rfl hdX7_undo ⟨Nat.le_of_ble_eq_true rfl, Nat.le_of_ble_eq_true rfl⟩) (by decide) s_c0 rfl rfl rfl (Nat.le_of_ble_eq_true rfl) ⟨hcl, hsl⟩ dL_law_530 ?_
  refine x_aload_n B dL_law_533 rfl 2 rfl ?_
  refine y_swap ?_
  refine y_call (As := []) (st := [.int r]) B GM (y_kept (fun i j hi hj e => hdj j i hj hi e.symm)) (mX8_undo (l := l) GM.1.2.1 hM) (cwV 0 B.2.2.2.2.1 gL_law_X8_undo rfl rfl rfl hdX8_undo ⟨Nat.le_of_ble_eq_true rfl, Nat.le_of_ble_eq_true rfl⟩) (by decide) m_c0 rfl rfl rfl (Nat.le_of_ble_eq_true rfl) ⟨hcl, hsl⟩ dL_law_534 ?_
  refine y_swap ?_
  refine x_icmp_eq (tgt := 1244) B dL_law_537 (by decide) (fun _ => ?_) (fun hne => absurd rfl hne)
  exact kk
set_option maxRecDepth 100000 in
set_option maxHeartbeats 4000000 in
theorem y_c12 {σ σ' τ τ' : x_S} {r : Int32} {j : Nat} (X : y_X p s m meth c D cI cQ cC cZ ad aS am b L xs cells slots) (hj : j + 7 ≤ L) (hS : fX7_gesture (xs (j + 1)) (xs (j + 2)) σ = some r) (hM : fX8_gesture (xs (j + 1)) (xs (j + 2)) τ = some r) (kk : x_J p l e room_1 s m #[Value.ref b] below meth c cells slots Q (y_A s) 4 (y_I D cI cQ cC cZ ad am σ τ) [(0, .ref b), (1, .ref (ad 0)), (2, .ref (am 0)), (3, .int (nI j))] [] 1244) : x_J p l e room_1 s m #[Value.ref b] below meth c cells slots Q (y_A s) 4 (y_I D cI cQ cC cZ ad am σ τ) [(0, .ref b), (1, .ref (ad 0)), (2, .ref (am 0)), (3, .int (nI j))] [] 542 := by
  obtain ⟨B, GS, GM, hdj, hX, hbl, hL, hcl, hsl, hr⟩ := X
  have hbA : ¬ y_A s b := Nat.not_le.mpr hbl
  refine x_aload_n B dL_law_542 rfl 1 rfl ?_
  refine x_aload_n B dL_law_543 rfl 0 rfl ?_
  refine x_iload_n B dL_law_544 rfl 3 rfl ?_
  refine x_iconst (v := 1) B dL_law_545 (by decide) ?_
  refine x_iadd B dL_law_546 ?_
  refine y_sld B hX hbl hbA (j := j + 1) (nI_add j 1) (by omega) hL dL_law_547 ?_
  refine x_aload_n B dL_law_548 rfl 0 rfl ?_
  refine x_iload_n B dL_law_549 rfl 3 rfl ?_
  refine x_iconst (v := 2) B dL_law_550 (by decide) ?_
  refine x_iadd B dL_law_551 ?_
  refine y_sld B hX hbl hbA (j := j + 2) (nI_add j 2) (by omega) hL dL_law_552 ?_
  refine y_call (As := [.int (xs (j + 1)), .int (xs (j + 2))]) (st := []) B GS (y_kept hdj) (mX7_gesture (l := l) (aS := aS) GS.1.2.1 hS) (cwV 2 B.2.2.2.2.1 gL_law_X7_gesture rfl rfl rfl hdX7_gesture ⟨Nat.le_of_ble_eq_true rfl, Nat.le_of_ble_eq_true rfl⟩) (by decide) s_c0 rfl rfl rfl (Nat.le_of_ble_eq_true rfl) ⟨hcl, hsl⟩ dL_law_553 ?_
  refine x_aload_n B dL_law_556 rfl 2 rfl ?_
  refine x_aload_n B dL_law_557 rfl 0 rfl ?_
  refine x_iload_n B dL_law_558 rfl 3 rfl ?_
  refine x_iconst (v := 1) B dL_law_559 (by decide) ?_
  refine x_iadd B dL_law_560 ?_
  refine y_sld B hX hbl hbA (j := j + 1) (nI_add j 1) (by omega) hL dL_law_561 ?_
  refine x_aload_n B dL_law_562 rfl 0 rfl ?_
  refine x_iload_n B dL_law_563 rfl 3 rfl ?_
  refine x_iconst (v := 2) B dL_law_564 (by decide) ?_
  refine x_iadd B dL_law_565 ?_
  refine y_sld B hX hbl hbA (j := j + 2) (nI_add j 2) (by omega) hL dL_law_566 ?_
  refine y_swap ?_
  refine y_call (As := [.int (xs (j + 1)), .int (xs (j + 2))]) (st := [.int r]) B GM (y_kept (fun i j hi hj e => hdj j i hj hi e.symm)) (mX8_gesture (l := l) GM.1.2.1 hM) (cwV 2 B.2.2.2.2.1 gL_law_X8_gesture rfl rfl rfl hdX8_gesture ⟨Nat.le_of_ble_eq_true rfl, Nat.le_of_ble_eq_true rfl⟩) (by decide) m_c0 rfl rfl rfl (Nat.le_of_ble_eq_true rfl) ⟨hcl, hsl⟩ dL_law_567 ?_
  refine y_swap ?_
  refine x_icmp_eq (tgt := 1244) B dL_law_570 (by decide) (fun _ => ?_) (fun hne => absurd rfl hne)
  exact kk
set_option maxRecDepth 100000 in
set_option maxHeartbeats 4000000 in
theorem y_c13 {σ σ' τ τ' : x_S} {r : Int32} {j : Nat} (X : y_X p s m meth c D cI cQ cC cZ ad aS am b L xs cells slots) (hj : j + 7 ≤ L) (hS : fX7_street (xs (j + 1)) (xs (j + 2)) σ = some r) (hM : fX8_street (xs (j + 1)) (xs (j + 2)) τ = some r) (kk : x_J p l e room_1 s m #[Value.ref b] below meth c cells slots Q (y_A s) 4 (y_I D cI cQ cC cZ ad am σ τ) [(0, .ref b), (1, .ref (ad 0)), (2, .ref (am 0)), (3, .int (nI j))] [] 1244) : x_J p l e room_1 s m #[Value.ref b] below meth c cells slots Q (y_A s) 4 (y_I D cI cQ cC cZ ad am σ τ) [(0, .ref b), (1, .ref (ad 0)), (2, .ref (am 0)), (3, .int (nI j))] [] 575 := by
  obtain ⟨B, GS, GM, hdj, hX, hbl, hL, hcl, hsl, hr⟩ := X
  have hbA : ¬ y_A s b := Nat.not_le.mpr hbl
  refine x_aload_n B dL_law_575 rfl 1 rfl ?_
  refine x_aload_n B dL_law_576 rfl 0 rfl ?_
  refine x_iload_n B dL_law_577 rfl 3 rfl ?_
  refine x_iconst (v := 1) B dL_law_578 (by decide) ?_
  refine x_iadd B dL_law_579 ?_
  refine y_sld B hX hbl hbA (j := j + 1) (nI_add j 1) (by omega) hL dL_law_580 ?_
  refine x_aload_n B dL_law_581 rfl 0 rfl ?_
  refine x_iload_n B dL_law_582 rfl 3 rfl ?_
  refine x_iconst (v := 2) B dL_law_583 (by decide) ?_
  refine x_iadd B dL_law_584 ?_
  refine y_sld B hX hbl hbA (j := j + 2) (nI_add j 2) (by omega) hL dL_law_585 ?_
  refine y_call (As := [.int (xs (j + 1)), .int (xs (j + 2))]) (st := []) B GS (y_kept hdj) (mX7_street (l := l) (aS := aS) GS.1.2.1 hS) (cwV 2 B.2.2.2.2.1 gL_law_X7_street rfl rfl rfl hdX7_street ⟨Nat.le_of_ble_eq_true rfl, Nat.le_of_ble_eq_true rfl⟩) (by decide) s_c0 rfl rfl rfl (Nat.le_of_ble_eq_true rfl) ⟨hcl, hsl⟩ dL_law_586 ?_
  refine x_aload_n B dL_law_589 rfl 2 rfl ?_
  refine x_aload_n B dL_law_590 rfl 0 rfl ?_
  refine x_iload_n B dL_law_591 rfl 3 rfl ?_
  refine x_iconst (v := 1) B dL_law_592 (by decide) ?_
  refine x_iadd B dL_law_593 ?_
  refine y_sld B hX hbl hbA (j := j + 1) (nI_add j 1) (by omega) hL dL_law_594 ?_
  refine x_aload_n B dL_law_595 rfl 0 rfl ?_
  refine x_iload_n B dL_law_596 rfl 3 rfl ?_
  refine x_iconst (v := 2) B dL_law_597 (by decide) ?_
  refine x_iadd B dL_law_598 ?_
  refine y_sld B hX hbl hbA (j := j + 2) (nI_add j 2) (by omega) hL dL_law_599 ?_
  refine y_swap ?_
  refine y_call (As := [.int (xs (j + 1)), .int (xs (j + 2))]) (st := [.int r]) B GM (y_kept (fun i j hi hj e => hdj j i hj hi e.symm)) (mX8_street (l := l) GM.1.2.1 hM) (cwV 2 B.2.2.2.2.1 gL_law_X8_street rfl rfl rfl hdX8_street ⟨Nat.le_of_ble_eq_true rfl, Nat.le_of_ble_eq_true rfl⟩) (by decide) m_c0 rfl rfl rfl (Nat.le_of_ble_eq_true rfl) ⟨hcl, hsl⟩ dL_law_600 ?_
  refine y_swap ?_
  refine x_icmp_eq (tgt := 1244) B dL_law_603 (by decide) (fun _ => ?_) (fun hne => absurd rfl hne)
  exact kk
set_option maxRecDepth 100000 in
set_option maxHeartbeats 4000000 in
theorem y_c14 {σ σ' τ τ' : x_S} {r : Int32} {j : Nat} (X : y_X p s m meth c D cI cQ cC cZ ad aS am b L xs cells slots) (hj : j + 7 ≤ L) (hS : fX7_duty (xs (j + 1)) (xs (j + 2)) σ = some r) (hM : fX8_duty (xs (j + 1)) (xs (j + 2)) τ = some r) (kk : x_J p l e room_1 s m #[Value.ref b] below meth c cells slots Q (y_A s) 4 (y_I D cI cQ cC cZ ad am σ τ) [(0, .ref b), (1, .ref (ad 0)), (2, .ref (am 0)), (3, .int (nI j))] [] 1244) : x_J p l e room_1 s m #[Value.ref b] below meth c cells slots Q (y_A s) 4 (y_I D cI cQ cC cZ ad am σ τ) [(0, .ref b), (1, .ref (ad 0)), (2, .ref (am 0)), (3, .int (nI j))] [] 608 := by
  obtain ⟨B, GS, GM, hdj, hX, hbl, hL, hcl, hsl, hr⟩ := X
  have hbA : ¬ y_A s b := Nat.not_le.mpr hbl
  refine x_aload_n B dL_law_608 rfl 1 rfl ?_
  refine x_aload_n B dL_law_609 rfl 0 rfl ?_
  refine x_iload_n B dL_law_610 rfl 3 rfl ?_
  refine x_iconst (v := 1) B dL_law_611 (by decide) ?_
  refine x_iadd B dL_law_612 ?_
  refine y_sld B hX hbl hbA (j := j + 1) (nI_add j 1) (by omega) hL dL_law_613 ?_
  refine x_aload_n B dL_law_614 rfl 0 rfl ?_
  refine x_iload_n B dL_law_615 rfl 3 rfl ?_
  refine x_iconst (v := 2) B dL_law_616 (by decide) ?_
  refine x_iadd B dL_law_617 ?_
  refine y_sld B hX hbl hbA (j := j + 2) (nI_add j 2) (by omega) hL dL_law_618 ?_
  refine y_call (As := [.int (xs (j + 1)), .int (xs (j + 2))]) (st := []) B GS (y_kept hdj) (mX7_duty (l := l) (aS := aS) GS.1.2.1 hS) (cwV 2 B.2.2.2.2.1 gL_law_X7_duty rfl rfl rfl hdX7_duty ⟨Nat.le_of_ble_eq_true rfl, Nat.le_of_ble_eq_true rfl⟩) (by decide) s_c0 rfl rfl rfl (Nat.le_of_ble_eq_true rfl) ⟨hcl, hsl⟩ dL_law_619 ?_
  refine x_aload_n B dL_law_622 rfl 2 rfl ?_
  refine x_aload_n B dL_law_623 rfl 0 rfl ?_
  refine x_iload_n B dL_law_624 rfl 3 rfl ?_
  refine x_iconst (v := 1) B dL_law_625 (by decide) ?_
  refine x_iadd B dL_law_626 ?_
  refine y_sld B hX hbl hbA (j := j + 1) (nI_add j 1) (by omega) hL dL_law_627 ?_
  refine x_aload_n B dL_law_628 rfl 0 rfl ?_
  refine x_iload_n B dL_law_629 rfl 3 rfl ?_
  refine x_iconst (v := 2) B dL_law_630 (by decide) ?_
  refine x_iadd B dL_law_631 ?_
  refine y_sld B hX hbl hbA (j := j + 2) (nI_add j 2) (by omega) hL dL_law_632 ?_
  refine y_swap ?_
  refine y_call (As := [.int (xs (j + 1)), .int (xs (j + 2))]) (st := [.int r]) B GM (y_kept (fun i j hi hj e => hdj j i hj hi e.symm)) (mX8_duty (l := l) GM.1.2.1 hM) (cwV 2 B.2.2.2.2.1 gL_law_X8_duty rfl rfl rfl hdX8_duty ⟨Nat.le_of_ble_eq_true rfl, Nat.le_of_ble_eq_true rfl⟩) (by decide) m_c0 rfl rfl rfl (Nat.le_of_ble_eq_true rfl) ⟨hcl, hsl⟩ dL_law_633 ?_
  refine y_swap ?_
  refine x_icmp_eq (tgt := 1244) B dL_law_636 (by decide) (fun _ => ?_) (fun hne => absurd rfl hne)
  exact kk
set_option maxRecDepth 100000 in
set_option maxHeartbeats 4000000 in
theorem y_c15 {σ σ' τ τ' : x_S} {r : Int32} {j : Nat} (X : y_X p s m meth c D cI cQ cC cZ ad aS am b L xs cells slots) (hj : j + 7 ≤ L) (hS : fX7_tell (xs (j + 1)) (xs (j + 2)) (xs (j + 3)) (xs (j + 4)) (xs (j + 5)) σ = some (r, σ')) (hM : fX8_tell (xs (j + 1)) (xs (j + 2)) (xs (j + 3)) (xs (j + 4)) (xs (j + 5)) τ = some (r, τ')) (kk : x_J p l e room_1 s m #[Value.ref b] below meth c cells slots Q (y_A s) 4 (y_I D cI cQ cC cZ ad am σ' τ') [(0, .ref b), (1, .ref (ad 0)), (2, .ref (am 0)), (3, .int (nI j))] [] 1244) : x_J p l e room_1 s m #[Value.ref b] below meth c cells slots Q (y_A s) 4 (y_I D cI cQ cC cZ ad am σ τ) [(0, .ref b), (1, .ref (ad 0)), (2, .ref (am 0)), (3, .int (nI j))] [] 641 := by
  obtain ⟨B, GS, GM, hdj, hX, hbl, hL, hcl, hsl, hr⟩ := X
  have hbA : ¬ y_A s b := Nat.not_le.mpr hbl
  refine x_aload_n B dL_law_641 rfl 1 rfl ?_
  refine x_aload_n B dL_law_642 rfl 0 rfl ?_
  refine x_iload_n B dL_law_643 rfl 3 rfl ?_
  refine x_iconst (v := 1) B dL_law_644 (by decide) ?_
  refine x_iadd B dL_law_645 ?_
  refine y_sld B hX hbl hbA (j := j + 1) (nI_add j 1) (by omega) hL dL_law_646 ?_
  refine x_aload_n B dL_law_647 rfl 0 rfl ?_
  refine x_iload_n B dL_law_648 rfl 3 rfl ?_
  refine x_iconst (v := 2) B dL_law_649 (by decide) ?_
  refine x_iadd B dL_law_650 ?_
  refine y_sld B hX hbl hbA (j := j + 2) (nI_add j 2) (by omega) hL dL_law_651 ?_
  refine x_aload_n B dL_law_652 rfl 0 rfl ?_
  refine x_iload_n B dL_law_653 rfl 3 rfl ?_
  refine x_iconst (v := 3) B dL_law_654 (by decide) ?_
  refine x_iadd B dL_law_655 ?_
  refine y_sld B hX hbl hbA (j := j + 3) (nI_add j 3) (by omega) hL dL_law_656 ?_
  refine x_aload_n B dL_law_657 rfl 0 rfl ?_
  refine x_iload_n B dL_law_658 rfl 3 rfl ?_
  refine x_iconst (v := 4) B dL_law_659 (by decide) ?_
  refine x_iadd B dL_law_660 ?_
  refine y_sld B hX hbl hbA (j := j + 4) (nI_add j 4) (by omega) hL dL_law_661 ?_
  refine x_aload_n B dL_law_662 rfl 0 rfl ?_
  refine x_iload_n B dL_law_663 rfl 3 rfl ?_
  refine x_iconst (v := 5) B dL_law_664 (by decide) ?_
  refine x_iadd B dL_law_665 ?_
  refine y_sld B hX hbl hbA (j := j + 5) (nI_add j 5) (by omega) hL dL_law_666 ?_
  refine y_call (As := [.int (xs (j + 1)), .int (xs (j + 2)), .int (xs (j + 3)), .int (xs (j + 4)), .int (xs (j + 5))]) (st := []) B GS (y_kept hdj) (mX7_tell (l := l) (aS := aS) GS.1.2.1 hS) (cwV 5 B.2.2.2.2.1 gL_law_X7_tell rfl rfl rfl hdX7_tell ⟨Nat.le_of_ble_eq_true rfl, Nat.le_of_ble_eq_true rfl⟩) (by decide) s_c0 rfl rfl rfl (Nat.le_of_ble_eq_true rfl) ⟨hcl, hsl⟩ dL_law_667 ?_
  refine x_aload_n B dL_law_670 rfl 2 rfl ?_
  refine x_aload_n B dL_law_671 rfl 0 rfl ?_
  refine x_iload_n B dL_law_672 rfl 3 rfl ?_
  refine x_iconst (v := 1) B dL_law_673 (by decide) ?_
  refine x_iadd B dL_law_674 ?_
  refine y_sld B hX hbl hbA (j := j + 1) (nI_add j 1) (by omega) hL dL_law_675 ?_
  refine x_aload_n B dL_law_676 rfl 0 rfl ?_
  refine x_iload_n B dL_law_677 rfl 3 rfl ?_
  refine x_iconst (v := 2) B dL_law_678 (by decide) ?_
  refine x_iadd B dL_law_679 ?_
  refine y_sld B hX hbl hbA (j := j + 2) (nI_add j 2) (by omega) hL dL_law_680 ?_
  refine x_aload_n B dL_law_681 rfl 0 rfl ?_
  refine x_iload_n B dL_law_682 rfl 3 rfl ?_
  refine x_iconst (v := 3) B dL_law_683 (by decide) ?_
  refine x_iadd B dL_law_684 ?_
  refine y_sld B hX hbl hbA (j := j + 3) (nI_add j 3) (by omega) hL dL_law_685 ?_
  refine x_aload_n B dL_law_686 rfl 0 rfl ?_
  refine x_iload_n B dL_law_687 rfl 3 rfl ?_
  refine x_iconst (v := 4) B dL_law_688 (by decide) ?_
  refine x_iadd B dL_law_689 ?_
  refine y_sld B hX hbl hbA (j := j + 4) (nI_add j 4) (by omega) hL dL_law_690 ?_
  refine x_aload_n B dL_law_691 rfl 0 rfl ?_
  refine x_iload_n B dL_law_692 rfl 3 rfl ?_
  refine x_iconst (v := 5) B dL_law_693 (by decide) ?_
  refine x_iadd B dL_law_694 ?_
  refine y_sld B hX hbl hbA (j := j + 5) (nI_add j 5) (by omega) hL dL_law_695 ?_
  refine y_swap ?_
  refine y_call (As := [.int (xs (j + 1)), .int (xs (j + 2)), .int (xs (j + 3)), .int (xs (j + 4)), .int (xs (j + 5))]) (st := [.int r]) B GM (y_kept (fun i j hi hj e => hdj j i hj hi e.symm)) (mX8_tell (l := l) GM.1.2.1 hM) (cwV 5 B.2.2.2.2.1 gL_law_X8_tell rfl rfl rfl hdX8_tell ⟨Nat.le_of_ble_eq_true rfl, Nat.le_of_ble_eq_true rfl⟩) (by decide) m_c0 rfl rfl rfl (Nat.le_of_ble_eq_true rfl) ⟨hcl, hsl⟩ dL_law_696 ?_
  refine y_swap ?_
  refine x_icmp_eq (tgt := 1244) B dL_law_699 (by decide) (fun _ => ?_) (fun hne => absurd rfl hne)
  exact kk
set_option maxRecDepth 100000 in
set_option maxHeartbeats 4000000 in
theorem y_c16 {σ σ' τ τ' : x_S} {r : Int32} {j : Nat} (X : y_X p s m meth c D cI cQ cC cZ ad aS am b L xs cells slots) (hj : j + 7 ≤ L) (hS : fX7_shut (xs (j + 1)) σ = some r) (hM : fX8_shut (xs (j + 1)) τ = some r) (kk : x_J p l e room_1 s m #[Value.ref b] below meth c cells slots Q (y_A s) 4 (y_I D cI cQ cC cZ ad am σ τ) [(0, .ref b), (1, .ref (ad 0)), (2, .ref (am 0)), (3, .int (nI j))] [] 1244) : x_J p l e room_1 s m #[Value.ref b] below meth c cells slots Q (y_A s) 4 (y_I D cI cQ cC cZ ad am σ τ) [(0, .ref b), (1, .ref (ad 0)), (2, .ref (am 0)), (3, .int (nI j))] [] 704 := by
  obtain ⟨B, GS, GM, hdj, hX, hbl, hL, hcl, hsl, hr⟩ := X
  have hbA : ¬ y_A s b := Nat.not_le.mpr hbl
  refine x_aload_n B dL_law_704 rfl 1 rfl ?_
  refine x_aload_n B dL_law_705 rfl 0 rfl ?_
  refine x_iload_n B dL_law_706 rfl 3 rfl ?_
  refine x_iconst (v := 1) B dL_law_707 (by decide) ?_
  refine x_iadd B dL_law_708 ?_
  refine y_sld B hX hbl hbA (j := j + 1) (nI_add j 1) (by omega) hL dL_law_709 ?_
  refine y_call (As := [.int (xs (j + 1))]) (st := []) B GS (y_kept hdj) (mX7_shut (l := l) (aS := aS) GS.1.2.1 hS) (cwV 1 B.2.2.2.2.1 gL_law_X7_shut rfl rfl rfl hdX7_shut ⟨Nat.le_of_ble_eq_true rfl, Nat.le_of_ble_eq_true rfl⟩) (by decide) s_c0 rfl rfl rfl (Nat.le_of_ble_eq_true rfl) ⟨hcl, hsl⟩ dL_law_710 ?_
  refine x_aload_n B dL_law_713 rfl 2 rfl ?_
  refine x_aload_n B dL_law_714 rfl 0 rfl ?_
  refine x_iload_n B dL_law_715 rfl 3 rfl ?_
  refine x_iconst (v := 1) B dL_law_716 (by decide) ?_
  refine x_iadd B dL_law_717 ?_
  refine y_sld B hX hbl hbA (j := j + 1) (nI_add j 1) (by omega) hL dL_law_718 ?_
  refine y_swap ?_
  refine y_call (As := [.int (xs (j + 1))]) (st := [.int r]) B GM (y_kept (fun i j hi hj e => hdj j i hj hi e.symm)) (mX8_shut (l := l) GM.1.2.1 hM) (cwV 1 B.2.2.2.2.1 gL_law_X8_shut rfl rfl rfl hdX8_shut ⟨Nat.le_of_ble_eq_true rfl, Nat.le_of_ble_eq_true rfl⟩) (by decide) m_c0 rfl rfl rfl (Nat.le_of_ble_eq_true rfl) ⟨hcl, hsl⟩ dL_law_719 ?_
  refine y_swap ?_
  refine x_icmp_eq (tgt := 1244) B dL_law_722 (by decide) (fun _ => ?_) (fun hne => absurd rfl hne)
  exact kk
set_option maxRecDepth 100000 in
set_option maxHeartbeats 4000000 in
theorem y_c17 {σ σ' τ τ' : x_S} {r : Int32} {j : Nat} (X : y_X p s m meth c D cI cQ cC cZ ad aS am b L xs cells slots) (hj : j + 7 ≤ L) (hS : fX7_quick (xs (j + 1)) (xs (j + 2)) (xs (j + 3)) σ = some r) (hM : fX8_quick (xs (j + 1)) (xs (j + 2)) (xs (j + 3)) τ = some r) (kk : x_J p l e room_1 s m #[Value.ref b] below meth c cells slots Q (y_A s) 4 (y_I D cI cQ cC cZ ad am σ τ) [(0, .ref b), (1, .ref (ad 0)), (2, .ref (am 0)), (3, .int (nI j))] [] 1244) : x_J p l e room_1 s m #[Value.ref b] below meth c cells slots Q (y_A s) 4 (y_I D cI cQ cC cZ ad am σ τ) [(0, .ref b), (1, .ref (ad 0)), (2, .ref (am 0)), (3, .int (nI j))] [] 727 := by
  obtain ⟨B, GS, GM, hdj, hX, hbl, hL, hcl, hsl, hr⟩ := X
  have hbA : ¬ y_A s b := Nat.not_le.mpr hbl
  refine x_aload_n B dL_law_727 rfl 1 rfl ?_
  refine x_aload_n B dL_law_728 rfl 0 rfl ?_
  refine x_iload_n B dL_law_729 rfl 3 rfl ?_
  refine x_iconst (v := 1) B dL_law_730 (by decide) ?_
  refine x_iadd B dL_law_731 ?_
  refine y_sld B hX hbl hbA (j := j + 1) (nI_add j 1) (by omega) hL dL_law_732 ?_
  refine x_aload_n B dL_law_733 rfl 0 rfl ?_
  refine x_iload_n B dL_law_734 rfl 3 rfl ?_
  refine x_iconst (v := 2) B dL_law_735 (by decide) ?_
  refine x_iadd B dL_law_736 ?_
  refine y_sld B hX hbl hbA (j := j + 2) (nI_add j 2) (by omega) hL dL_law_737 ?_
  refine x_aload_n B dL_law_738 rfl 0 rfl ?_
  refine x_iload_n B dL_law_739 rfl 3 rfl ?_
  refine x_iconst (v := 3) B dL_law_740 (by decide) ?_
  refine x_iadd B dL_law_741 ?_
  refine y_sld B hX hbl hbA (j := j + 3) (nI_add j 3) (by omega) hL dL_law_742 ?_
  refine y_call (As := [.int (xs (j + 1)), .int (xs (j + 2)), .int (xs (j + 3))]) (st := []) B GS (y_kept hdj) (mX7_quick (l := l) (aS := aS) GS.1.2.1 hS) (cwV 3 B.2.2.2.2.1 gL_law_X7_quick rfl rfl rfl hdX7_quick ⟨Nat.le_of_ble_eq_true rfl, Nat.le_of_ble_eq_true rfl⟩) (by decide) s_c0 rfl rfl rfl (Nat.le_of_ble_eq_true rfl) ⟨hcl, hsl⟩ dL_law_743 ?_
  refine x_aload_n B dL_law_746 rfl 2 rfl ?_
  refine x_aload_n B dL_law_747 rfl 0 rfl ?_
  refine x_iload_n B dL_law_748 rfl 3 rfl ?_
  refine x_iconst (v := 1) B dL_law_749 (by decide) ?_
  refine x_iadd B dL_law_750 ?_
  refine y_sld B hX hbl hbA (j := j + 1) (nI_add j 1) (by omega) hL dL_law_751 ?_
  refine x_aload_n B dL_law_752 rfl 0 rfl ?_
  refine x_iload_n B dL_law_753 rfl 3 rfl ?_
  refine x_iconst (v := 2) B dL_law_754 (by decide) ?_
  refine x_iadd B dL_law_755 ?_
  refine y_sld B hX hbl hbA (j := j + 2) (nI_add j 2) (by omega) hL dL_law_756 ?_
  refine x_aload_n B dL_law_757 rfl 0 rfl ?_
  refine x_iload_n B dL_law_758 rfl 3 rfl ?_
  refine x_iconst (v := 3) B dL_law_759 (by decide) ?_
  refine x_iadd B dL_law_760 ?_
  refine y_sld B hX hbl hbA (j := j + 3) (nI_add j 3) (by omega) hL dL_law_761 ?_
  refine y_swap ?_
  refine y_call (As := [.int (xs (j + 1)), .int (xs (j + 2)), .int (xs (j + 3))]) (st := [.int r]) B GM (y_kept (fun i j hi hj e => hdj j i hj hi e.symm)) (mX8_quick (l := l) GM.1.2.1 hM) (cwV 3 B.2.2.2.2.1 gL_law_X8_quick rfl rfl rfl hdX8_quick ⟨Nat.le_of_ble_eq_true rfl, Nat.le_of_ble_eq_true rfl⟩) (by decide) m_c0 rfl rfl rfl (Nat.le_of_ble_eq_true rfl) ⟨hcl, hsl⟩ dL_law_762 ?_
  refine y_swap ?_
  refine x_icmp_eq (tgt := 1244) B dL_law_765 (by decide) (fun _ => ?_) (fun hne => absurd rfl hne)
  exact kk
set_option maxRecDepth 100000 in
set_option maxHeartbeats 4000000 in
theorem y_c18 {σ σ' τ τ' : x_S} {r : Int32} {j : Nat} (X : y_X p s m meth c D cI cQ cC cZ ad aS am b L xs cells slots) (hj : j + 7 ≤ L) (hS : fX7_thread (xs (j + 1)) (xs (j + 2)) (xs (j + 3)) σ = some (r, σ')) (hM : fX8_thread (xs (j + 1)) (xs (j + 2)) (xs (j + 3)) τ = some (r, τ')) (kk : x_J p l e room_1 s m #[Value.ref b] below meth c cells slots Q (y_A s) 4 (y_I D cI cQ cC cZ ad am σ' τ') [(0, .ref b), (1, .ref (ad 0)), (2, .ref (am 0)), (3, .int (nI j))] [] 1244) : x_J p l e room_1 s m #[Value.ref b] below meth c cells slots Q (y_A s) 4 (y_I D cI cQ cC cZ ad am σ τ) [(0, .ref b), (1, .ref (ad 0)), (2, .ref (am 0)), (3, .int (nI j))] [] 770 := by
  obtain ⟨B, GS, GM, hdj, hX, hbl, hL, hcl, hsl, hr⟩ := X
  have hbA : ¬ y_A s b := Nat.not_le.mpr hbl
  refine x_aload_n B dL_law_770 rfl 1 rfl ?_
  refine x_aload_n B dL_law_771 rfl 0 rfl ?_
  refine x_iload_n B dL_law_772 rfl 3 rfl ?_
  refine x_iconst (v := 1) B dL_law_773 (by decide) ?_
  refine x_iadd B dL_law_774 ?_
  refine y_sld B hX hbl hbA (j := j + 1) (nI_add j 1) (by omega) hL dL_law_775 ?_
  refine x_aload_n B dL_law_776 rfl 0 rfl ?_
  refine x_iload_n B dL_law_777 rfl 3 rfl ?_
  refine x_iconst (v := 2) B dL_law_778 (by decide) ?_
  refine x_iadd B dL_law_779 ?_
  refine y_sld B hX hbl hbA (j := j + 2) (nI_add j 2) (by omega) hL dL_law_780 ?_
  refine x_aload_n B dL_law_781 rfl 0 rfl ?_
  refine x_iload_n B dL_law_782 rfl 3 rfl ?_
  refine x_iconst (v := 3) B dL_law_783 (by decide) ?_
  refine x_iadd B dL_law_784 ?_
  refine y_sld B hX hbl hbA (j := j + 3) (nI_add j 3) (by omega) hL dL_law_785 ?_
  refine y_call (As := [.int (xs (j + 1)), .int (xs (j + 2)), .int (xs (j + 3))]) (st := []) B GS (y_kept hdj) (mX7_thread (l := l) (aS := aS) GS.1.2.1 hS) (cwV 3 B.2.2.2.2.1 gL_law_X7_thread rfl rfl rfl hdX7_thread ⟨Nat.le_of_ble_eq_true rfl, Nat.le_of_ble_eq_true rfl⟩) (by decide) s_c0 rfl rfl rfl (Nat.le_of_ble_eq_true rfl) ⟨hcl, hsl⟩ dL_law_786 ?_
  refine x_aload_n B dL_law_789 rfl 2 rfl ?_
  refine x_aload_n B dL_law_790 rfl 0 rfl ?_
  refine x_iload_n B dL_law_791 rfl 3 rfl ?_
  refine x_iconst (v := 1) B dL_law_792 (by decide) ?_
  refine x_iadd B dL_law_793 ?_
  refine y_sld B hX hbl hbA (j := j + 1) (nI_add j 1) (by omega) hL dL_law_794 ?_
  refine x_aload_n B dL_law_795 rfl 0 rfl ?_
  refine x_iload_n B dL_law_796 rfl 3 rfl ?_
  refine x_iconst (v := 2) B dL_law_797 (by decide) ?_
  refine x_iadd B dL_law_798 ?_
  refine y_sld B hX hbl hbA (j := j + 2) (nI_add j 2) (by omega) hL dL_law_799 ?_
  refine x_aload_n B dL_law_800 rfl 0 rfl ?_
  refine x_iload_n B dL_law_801 rfl 3 rfl ?_
  refine x_iconst (v := 3) B dL_law_802 (by decide) ?_
  refine x_iadd B dL_law_803 ?_
  refine y_sld B hX hbl hbA (j := j + 3) (nI_add j 3) (by omega) hL dL_law_804 ?_
  refine y_swap ?_
  refine y_call (As := [.int (xs (j + 1)), .int (xs (j + 2)), .int (xs (j + 3))]) (st := [.int r]) B GM (y_kept (fun i j hi hj e => hdj j i hj hi e.symm)) (mX8_thread (l := l) GM.1.2.1 hM) (cwV 3 B.2.2.2.2.1 gL_law_X8_thread rfl rfl rfl hdX8_thread ⟨Nat.le_of_ble_eq_true rfl, Nat.le_of_ble_eq_true rfl⟩) (by decide) m_c0 rfl rfl rfl (Nat.le_of_ble_eq_true rfl) ⟨hcl, hsl⟩ dL_law_805 ?_
  refine y_swap ?_
  refine x_icmp_eq (tgt := 1244) B dL_law_808 (by decide) (fun _ => ?_) (fun hne => absurd rfl hne)
  exact kk
set_option maxRecDepth 100000 in
set_option maxHeartbeats 4000000 in
theorem y_c19 {σ σ' τ τ' : x_S} {r : Int32} {j : Nat} (X : y_X p s m meth c D cI cQ cC cZ ad aS am b L xs cells slots) (hj : j + 7 ≤ L) (hS : fX7_inches (xs (j + 1)) (xs (j + 2)) (xs (j + 3)) (xs (j + 4)) σ = some (r, σ')) (hM : fX8_inches (xs (j + 1)) (xs (j + 2)) (xs (j + 3)) (xs (j + 4)) τ = some (r, τ')) (kk : x_J p l e room_1 s m #[Value.ref b] below meth c cells slots Q (y_A s) 4 (y_I D cI cQ cC cZ ad am σ' τ') [(0, .ref b), (1, .ref (ad 0)), (2, .ref (am 0)), (3, .int (nI j))] [] 1244) : x_J p l e room_1 s m #[Value.ref b] below meth c cells slots Q (y_A s) 4 (y_I D cI cQ cC cZ ad am σ τ) [(0, .ref b), (1, .ref (ad 0)), (2, .ref (am 0)), (3, .int (nI j))] [] 813 := by
  obtain ⟨B, GS, GM, hdj, hX, hbl, hL, hcl, hsl, hr⟩ := X
  have hbA : ¬ y_A s b := Nat.not_le.mpr hbl
  refine x_aload_n B dL_law_813 rfl 1 rfl ?_
  refine x_aload_n B dL_law_814 rfl 0 rfl ?_
  refine x_iload_n B dL_law_815 rfl 3 rfl ?_
  refine x_iconst (v := 1) B dL_law_816 (by decide) ?_
  refine x_iadd B dL_law_817 ?_
  refine y_sld B hX hbl hbA (j := j + 1) (nI_add j 1) (by omega) hL dL_law_818 ?_
  refine x_aload_n B dL_law_819 rfl 0 rfl ?_
  refine x_iload_n B dL_law_820 rfl 3 rfl ?_
  refine x_iconst (v := 2) B dL_law_821 (by decide) ?_
  refine x_iadd B dL_law_822 ?_
  refine y_sld B hX hbl hbA (j := j + 2) (nI_add j 2) (by omega) hL dL_law_823 ?_
  refine x_aload_n B dL_law_824 rfl 0 rfl ?_
  refine x_iload_n B dL_law_825 rfl 3 rfl ?_
  refine x_iconst (v := 3) B dL_law_826 (by decide) ?_
  refine x_iadd B dL_law_827 ?_
  refine y_sld B hX hbl hbA (j := j + 3) (nI_add j 3) (by omega) hL dL_law_828 ?_
  refine x_aload_n B dL_law_829 rfl 0 rfl ?_
  refine x_iload_n B dL_law_830 rfl 3 rfl ?_
  refine x_iconst (v := 4) B dL_law_831 (by decide) ?_
  refine x_iadd B dL_law_832 ?_
  refine y_sld B hX hbl hbA (j := j + 4) (nI_add j 4) (by omega) hL dL_law_833 ?_
  refine y_call (As := [.int (xs (j + 1)), .int (xs (j + 2)), .int (xs (j + 3)), .int (xs (j + 4))]) (st := []) B GS (y_kept hdj) (mX7_inches (l := l) (aS := aS) GS.1.2.1 hS) (cwV 4 B.2.2.2.2.1 gL_law_X7_inches rfl rfl rfl hdX7_inches ⟨Nat.le_of_ble_eq_true rfl, Nat.le_of_ble_eq_true rfl⟩) (by decide) s_c0 rfl rfl rfl (Nat.le_of_ble_eq_true rfl) ⟨hcl, hsl⟩ dL_law_834 ?_
  refine x_aload_n B dL_law_837 rfl 2 rfl ?_
  refine x_aload_n B dL_law_838 rfl 0 rfl ?_
  refine x_iload_n B dL_law_839 rfl 3 rfl ?_
  refine x_iconst (v := 1) B dL_law_840 (by decide) ?_
  refine x_iadd B dL_law_841 ?_
  refine y_sld B hX hbl hbA (j := j + 1) (nI_add j 1) (by omega) hL dL_law_842 ?_
  refine x_aload_n B dL_law_843 rfl 0 rfl ?_
  refine x_iload_n B dL_law_844 rfl 3 rfl ?_
  refine x_iconst (v := 2) B dL_law_845 (by decide) ?_
  refine x_iadd B dL_law_846 ?_
  refine y_sld B hX hbl hbA (j := j + 2) (nI_add j 2) (by omega) hL dL_law_847 ?_
  refine x_aload_n B dL_law_848 rfl 0 rfl ?_
  refine x_iload_n B dL_law_849 rfl 3 rfl ?_
  refine x_iconst (v := 3) B dL_law_850 (by decide) ?_
  refine x_iadd B dL_law_851 ?_
  refine y_sld B hX hbl hbA (j := j + 3) (nI_add j 3) (by omega) hL dL_law_852 ?_
  refine x_aload_n B dL_law_853 rfl 0 rfl ?_
  refine x_iload_n B dL_law_854 rfl 3 rfl ?_
  refine x_iconst (v := 4) B dL_law_855 (by decide) ?_
  refine x_iadd B dL_law_856 ?_
  refine y_sld B hX hbl hbA (j := j + 4) (nI_add j 4) (by omega) hL dL_law_857 ?_
  refine y_swap ?_
  refine y_call (As := [.int (xs (j + 1)), .int (xs (j + 2)), .int (xs (j + 3)), .int (xs (j + 4))]) (st := [.int r]) B GM (y_kept (fun i j hi hj e => hdj j i hj hi e.symm)) (mX8_inches (l := l) GM.1.2.1 hM) (cwV 4 B.2.2.2.2.1 gL_law_X8_inches rfl rfl rfl hdX8_inches ⟨Nat.le_of_ble_eq_true rfl, Nat.le_of_ble_eq_true rfl⟩) (by decide) m_c0 rfl rfl rfl (Nat.le_of_ble_eq_true rfl) ⟨hcl, hsl⟩ dL_law_858 ?_
  refine y_swap ?_
  refine x_icmp_eq (tgt := 1244) B dL_law_861 (by decide) (fun _ => ?_) (fun hne => absurd rfl hne)
  exact kk
set_option maxRecDepth 100000 in
set_option maxHeartbeats 4000000 in
theorem y_c20 {σ σ' τ τ' : x_S} {r : Int32} {j : Nat} (X : y_X p s m meth c D cI cQ cC cZ ad aS am b L xs cells slots) (hj : j + 7 ≤ L) (hS : fX7_sorts (xs (j + 1)) (xs (j + 2)) (xs (j + 3)) (xs (j + 4)) σ = some (r, σ')) (hM : fX8_sorts (xs (j + 1)) (xs (j + 2)) (xs (j + 3)) (xs (j + 4)) τ = some (r, τ')) (kk : x_J p l e room_1 s m #[Value.ref b] below meth c cells slots Q (y_A s) 4 (y_I D cI cQ cC cZ ad am σ' τ') [(0, .ref b), (1, .ref (ad 0)), (2, .ref (am 0)), (3, .int (nI j))] [] 1244) : x_J p l e room_1 s m #[Value.ref b] below meth c cells slots Q (y_A s) 4 (y_I D cI cQ cC cZ ad am σ τ) [(0, .ref b), (1, .ref (ad 0)), (2, .ref (am 0)), (3, .int (nI j))] [] 866 := by
  obtain ⟨B, GS, GM, hdj, hX, hbl, hL, hcl, hsl, hr⟩ := X
  have hbA : ¬ y_A s b := Nat.not_le.mpr hbl
  refine x_aload_n B dL_law_866 rfl 1 rfl ?_
  refine x_aload_n B dL_law_867 rfl 0 rfl ?_
  refine x_iload_n B dL_law_868 rfl 3 rfl ?_
  refine x_iconst (v := 1) B dL_law_869 (by decide) ?_
  refine x_iadd B dL_law_870 ?_
  refine y_sld B hX hbl hbA (j := j + 1) (nI_add j 1) (by omega) hL dL_law_871 ?_
  refine x_aload_n B dL_law_872 rfl 0 rfl ?_
  refine x_iload_n B dL_law_873 rfl 3 rfl ?_
  refine x_iconst (v := 2) B dL_law_874 (by decide) ?_
  refine x_iadd B dL_law_875 ?_
  refine y_sld B hX hbl hbA (j := j + 2) (nI_add j 2) (by omega) hL dL_law_876 ?_
  refine x_aload_n B dL_law_877 rfl 0 rfl ?_
  refine x_iload_n B dL_law_878 rfl 3 rfl ?_
  refine x_iconst (v := 3) B dL_law_879 (by decide) ?_
  refine x_iadd B dL_law_880 ?_
  refine y_sld B hX hbl hbA (j := j + 3) (nI_add j 3) (by omega) hL dL_law_881 ?_
  refine x_aload_n B dL_law_882 rfl 0 rfl ?_
  refine x_iload_n B dL_law_883 rfl 3 rfl ?_
  refine x_iconst (v := 4) B dL_law_884 (by decide) ?_
  refine x_iadd B dL_law_885 ?_
  refine y_sld B hX hbl hbA (j := j + 4) (nI_add j 4) (by omega) hL dL_law_886 ?_
  refine y_call (As := [.int (xs (j + 1)), .int (xs (j + 2)), .int (xs (j + 3)), .int (xs (j + 4))]) (st := []) B GS (y_kept hdj) (mX7_sorts (l := l) (aS := aS) GS.1.2.1 hS) (cwV 4 B.2.2.2.2.1 gL_law_X7_sorts rfl rfl rfl hdX7_sorts ⟨Nat.le_of_ble_eq_true rfl, Nat.le_of_ble_eq_true rfl⟩) (by decide) s_c0 rfl rfl rfl (Nat.le_of_ble_eq_true rfl) ⟨hcl, hsl⟩ dL_law_887 ?_
  refine x_aload_n B dL_law_890 rfl 2 rfl ?_
  refine x_aload_n B dL_law_891 rfl 0 rfl ?_
  refine x_iload_n B dL_law_892 rfl 3 rfl ?_
  refine x_iconst (v := 1) B dL_law_893 (by decide) ?_
  refine x_iadd B dL_law_894 ?_
  refine y_sld B hX hbl hbA (j := j + 1) (nI_add j 1) (by omega) hL dL_law_895 ?_
  refine x_aload_n B dL_law_896 rfl 0 rfl ?_
  refine x_iload_n B dL_law_897 rfl 3 rfl ?_
  refine x_iconst (v := 2) B dL_law_898 (by decide) ?_
  refine x_iadd B dL_law_899 ?_
  refine y_sld B hX hbl hbA (j := j + 2) (nI_add j 2) (by omega) hL dL_law_900 ?_
  refine x_aload_n B dL_law_901 rfl 0 rfl ?_
  refine x_iload_n B dL_law_902 rfl 3 rfl ?_
  refine x_iconst (v := 3) B dL_law_903 (by decide) ?_
  refine x_iadd B dL_law_904 ?_
  refine y_sld B hX hbl hbA (j := j + 3) (nI_add j 3) (by omega) hL dL_law_905 ?_
  refine x_aload_n B dL_law_906 rfl 0 rfl ?_
  refine x_iload_n B dL_law_907 rfl 3 rfl ?_
  refine x_iconst (v := 4) B dL_law_908 (by decide) ?_
  refine x_iadd B dL_law_909 ?_
  refine y_sld B hX hbl hbA (j := j + 4) (nI_add j 4) (by omega) hL dL_law_910 ?_
  refine y_swap ?_
  refine y_call (As := [.int (xs (j + 1)), .int (xs (j + 2)), .int (xs (j + 3)), .int (xs (j + 4))]) (st := [.int r]) B GM (y_kept (fun i j hi hj e => hdj j i hj hi e.symm)) (mX8_sorts (l := l) GM.1.2.1 hM) (cwV 4 B.2.2.2.2.1 gL_law_X8_sorts rfl rfl rfl hdX8_sorts ⟨Nat.le_of_ble_eq_true rfl, Nat.le_of_ble_eq_true rfl⟩) (by decide) m_c0 rfl rfl rfl (Nat.le_of_ble_eq_true rfl) ⟨hcl, hsl⟩ dL_law_911 ?_
  refine y_swap ?_
  refine x_icmp_eq (tgt := 1244) B dL_law_914 (by decide) (fun _ => ?_) (fun hne => absurd rfl hne)
  exact kk
set_option maxRecDepth 100000 in
set_option maxHeartbeats 4000000 in
theorem y_c21 {σ σ' τ τ' : x_S} {r : Int32} {j : Nat} (X : y_X p s m meth c D cI cQ cC cZ ad aS am b L xs cells slots) (hj : j + 7 ≤ L) (hS : fX7_saved (xs (j + 1)) σ = some r) (hM : fX8_saved (xs (j + 1)) τ = some r) (kk : x_J p l e room_1 s m #[Value.ref b] below meth c cells slots Q (y_A s) 4 (y_I D cI cQ cC cZ ad am σ τ) [(0, .ref b), (1, .ref (ad 0)), (2, .ref (am 0)), (3, .int (nI j))] [] 1244) : x_J p l e room_1 s m #[Value.ref b] below meth c cells slots Q (y_A s) 4 (y_I D cI cQ cC cZ ad am σ τ) [(0, .ref b), (1, .ref (ad 0)), (2, .ref (am 0)), (3, .int (nI j))] [] 919 := by
  obtain ⟨B, GS, GM, hdj, hX, hbl, hL, hcl, hsl, hr⟩ := X
  have hbA : ¬ y_A s b := Nat.not_le.mpr hbl
  refine x_aload_n B dL_law_919 rfl 1 rfl ?_
  refine x_aload_n B dL_law_920 rfl 0 rfl ?_
  refine x_iload_n B dL_law_921 rfl 3 rfl ?_
  refine x_iconst (v := 1) B dL_law_922 (by decide) ?_
  refine x_iadd B dL_law_923 ?_
  refine y_sld B hX hbl hbA (j := j + 1) (nI_add j 1) (by omega) hL dL_law_924 ?_
  refine y_call (As := [.int (xs (j + 1))]) (st := []) B GS (y_kept hdj) (mX7_saved (l := l) (aS := aS) GS.1.2.1 hS) (cwV 1 B.2.2.2.2.1 gL_law_X7_saved rfl rfl rfl hdX7_saved ⟨Nat.le_of_ble_eq_true rfl, Nat.le_of_ble_eq_true rfl⟩) (by decide) s_c0 rfl rfl rfl (Nat.le_of_ble_eq_true rfl) ⟨hcl, hsl⟩ dL_law_925 ?_
  refine x_aload_n B dL_law_928 rfl 2 rfl ?_
  refine x_aload_n B dL_law_929 rfl 0 rfl ?_
  refine x_iload_n B dL_law_930 rfl 3 rfl ?_
  refine x_iconst (v := 1) B dL_law_931 (by decide) ?_
  refine x_iadd B dL_law_932 ?_
  refine y_sld B hX hbl hbA (j := j + 1) (nI_add j 1) (by omega) hL dL_law_933 ?_
  refine y_swap ?_
  refine y_call (As := [.int (xs (j + 1))]) (st := [.int r]) B GM (y_kept (fun i j hi hj e => hdj j i hj hi e.symm)) (mX8_saved (l := l) GM.1.2.1 hM) (cwV 1 B.2.2.2.2.1 gL_law_X8_saved rfl rfl rfl hdX8_saved ⟨Nat.le_of_ble_eq_true rfl, Nat.le_of_ble_eq_true rfl⟩) (by decide) m_c0 rfl rfl rfl (Nat.le_of_ble_eq_true rfl) ⟨hcl, hsl⟩ dL_law_934 ?_
  refine y_swap ?_
  refine x_icmp_eq (tgt := 1244) B dL_law_937 (by decide) (fun _ => ?_) (fun hne => absurd rfl hne)
  exact kk
set_option maxRecDepth 100000 in
set_option maxHeartbeats 4000000 in
theorem y_c22 {σ σ' τ τ' : x_S} {r : Int32} {j : Nat} (X : y_X p s m meth c D cI cQ cC cZ ad aS am b L xs cells slots) (hj : j + 7 ≤ L) (hS : fX7_worst (xs (j + 1)) (xs (j + 2)) σ = some r) (hM : fX8_worst (xs (j + 1)) (xs (j + 2)) τ = some r) (kk : x_J p l e room_1 s m #[Value.ref b] below meth c cells slots Q (y_A s) 4 (y_I D cI cQ cC cZ ad am σ τ) [(0, .ref b), (1, .ref (ad 0)), (2, .ref (am 0)), (3, .int (nI j))] [] 1244) : x_J p l e room_1 s m #[Value.ref b] below meth c cells slots Q (y_A s) 4 (y_I D cI cQ cC cZ ad am σ τ) [(0, .ref b), (1, .ref (ad 0)), (2, .ref (am 0)), (3, .int (nI j))] [] 942 := by
  obtain ⟨B, GS, GM, hdj, hX, hbl, hL, hcl, hsl, hr⟩ := X
  have hbA : ¬ y_A s b := Nat.not_le.mpr hbl
  refine x_aload_n B dL_law_942 rfl 1 rfl ?_
  refine x_aload_n B dL_law_943 rfl 0 rfl ?_
  refine x_iload_n B dL_law_944 rfl 3 rfl ?_
  refine x_iconst (v := 1) B dL_law_945 (by decide) ?_
  refine x_iadd B dL_law_946 ?_
  refine y_sld B hX hbl hbA (j := j + 1) (nI_add j 1) (by omega) hL dL_law_947 ?_
  refine x_aload_n B dL_law_948 rfl 0 rfl ?_
  refine x_iload_n B dL_law_949 rfl 3 rfl ?_
  refine x_iconst (v := 2) B dL_law_950 (by decide) ?_
  refine x_iadd B dL_law_951 ?_
  refine y_sld B hX hbl hbA (j := j + 2) (nI_add j 2) (by omega) hL dL_law_952 ?_
  refine y_call (As := [.int (xs (j + 1)), .int (xs (j + 2))]) (st := []) B GS (y_kept hdj) (mX7_worst (l := l) (aS := aS) GS.1.2.1 hS) (cwV 2 B.2.2.2.2.1 gL_law_X7_worst rfl rfl rfl hdX7_worst ⟨Nat.le_of_ble_eq_true rfl, Nat.le_of_ble_eq_true rfl⟩) (by decide) s_c0 rfl rfl rfl (Nat.le_of_ble_eq_true rfl) ⟨hcl, hsl⟩ dL_law_953 ?_
  refine x_aload_n B dL_law_956 rfl 2 rfl ?_
  refine x_aload_n B dL_law_957 rfl 0 rfl ?_
  refine x_iload_n B dL_law_958 rfl 3 rfl ?_
  refine x_iconst (v := 1) B dL_law_959 (by decide) ?_
  refine x_iadd B dL_law_960 ?_
  refine y_sld B hX hbl hbA (j := j + 1) (nI_add j 1) (by omega) hL dL_law_961 ?_
  refine x_aload_n B dL_law_962 rfl 0 rfl ?_
  refine x_iload_n B dL_law_963 rfl 3 rfl ?_
  refine x_iconst (v := 2) B dL_law_964 (by decide) ?_
  refine x_iadd B dL_law_965 ?_
  refine y_sld B hX hbl hbA (j := j + 2) (nI_add j 2) (by omega) hL dL_law_966 ?_
  refine y_swap ?_
  refine y_call (As := [.int (xs (j + 1)), .int (xs (j + 2))]) (st := [.int r]) B GM (y_kept (fun i j hi hj e => hdj j i hj hi e.symm)) (mX8_worst (l := l) GM.1.2.1 hM) (cwV 2 B.2.2.2.2.1 gL_law_X8_worst rfl rfl rfl hdX8_worst ⟨Nat.le_of_ble_eq_true rfl, Nat.le_of_ble_eq_true rfl⟩) (by decide) m_c0 rfl rfl rfl (Nat.le_of_ble_eq_true rfl) ⟨hcl, hsl⟩ dL_law_967 ?_
  refine y_swap ?_
  refine x_icmp_eq (tgt := 1244) B dL_law_970 (by decide) (fun _ => ?_) (fun hne => absurd rfl hne)
  exact kk
set_option maxRecDepth 100000 in
set_option maxHeartbeats 4000000 in
theorem y_c23 {σ σ' τ τ' : x_S} {r : Int32} {j : Nat} (X : y_X p s m meth c D cI cQ cC cZ ad aS am b L xs cells slots) (hj : j + 7 ≤ L) (hS : fX7_tremble (xs (j + 1)) (xs (j + 2)) (xs (j + 3)) (xs (j + 4)) (xs (j + 5)) (xs (j + 6)) σ = some r) (hM : fX8_tremble (xs (j + 1)) (xs (j + 2)) (xs (j + 3)) (xs (j + 4)) (xs (j + 5)) (xs (j + 6)) τ = some r) (kk : x_J p l e room_1 s m #[Value.ref b] below meth c cells slots Q (y_A s) 4 (y_I D cI cQ cC cZ ad am σ τ) [(0, .ref b), (1, .ref (ad 0)), (2, .ref (am 0)), (3, .int (nI j))] [] 1244) : x_J p l e room_1 s m #[Value.ref b] below meth c cells slots Q (y_A s) 4 (y_I D cI cQ cC cZ ad am σ τ) [(0, .ref b), (1, .ref (ad 0)), (2, .ref (am 0)), (3, .int (nI j))] [] 975 := by
  obtain ⟨B, GS, GM, hdj, hX, hbl, hL, hcl, hsl, hr⟩ := X
  have hbA : ¬ y_A s b := Nat.not_le.mpr hbl
  refine x_aload_n B dL_law_975 rfl 1 rfl ?_
  refine x_aload_n B dL_law_976 rfl 0 rfl ?_
  refine x_iload_n B dL_law_977 rfl 3 rfl ?_
  refine x_iconst (v := 1) B dL_law_978 (by decide) ?_
  refine x_iadd B dL_law_979 ?_
  refine y_sld B hX hbl hbA (j := j + 1) (nI_add j 1) (by omega) hL dL_law_980 ?_
  refine x_aload_n B dL_law_981 rfl 0 rfl ?_
  refine x_iload_n B dL_law_982 rfl 3 rfl ?_
  refine x_iconst (v := 2) B dL_law_983 (by decide) ?_
  refine x_iadd B dL_law_984 ?_
  refine y_sld B hX hbl hbA (j := j + 2) (nI_add j 2) (by omega) hL dL_law_985 ?_
  refine x_aload_n B dL_law_986 rfl 0 rfl ?_
  refine x_iload_n B dL_law_987 rfl 3 rfl ?_
  refine x_iconst (v := 3) B dL_law_988 (by decide) ?_
  refine x_iadd B dL_law_989 ?_
  refine y_sld B hX hbl hbA (j := j + 3) (nI_add j 3) (by omega) hL dL_law_990 ?_
  refine x_aload_n B dL_law_991 rfl 0 rfl ?_
  refine x_iload_n B dL_law_992 rfl 3 rfl ?_
  refine x_iconst (v := 4) B dL_law_993 (by decide) ?_
  refine x_iadd B dL_law_994 ?_
  refine y_sld B hX hbl hbA (j := j + 4) (nI_add j 4) (by omega) hL dL_law_995 ?_
  refine x_aload_n B dL_law_996 rfl 0 rfl ?_
  refine x_iload_n B dL_law_997 rfl 3 rfl ?_
  refine x_iconst (v := 5) B dL_law_998 (by decide) ?_
  refine x_iadd B dL_law_999 ?_
  refine y_sld B hX hbl hbA (j := j + 5) (nI_add j 5) (by omega) hL dL_law_1000 ?_
  refine x_aload_n B dL_law_1001 rfl 0 rfl ?_
  refine x_iload_n B dL_law_1002 rfl 3 rfl ?_
  refine x_bipush (v := 6) B dL_law_1003 (by decide) ?_
  refine x_iadd B dL_law_1005 ?_
  refine y_sld B hX hbl hbA (j := j + 6) (nI_add j 6) (by omega) hL dL_law_1006 ?_
  refine y_call (As := [.int (xs (j + 1)), .int (xs (j + 2)), .int (xs (j + 3)), .int (xs (j + 4)), .int (xs (j + 5)), .int (xs (j + 6))]) (st := []) B GS (y_kept hdj) (mX7_tremble (l := l) (aS := aS) GS.1.2.1 hS) (cwV 6 B.2.2.2.2.1 gL_law_X7_tremble rfl rfl rfl hdX7_tremble ⟨Nat.le_of_ble_eq_true rfl, Nat.le_of_ble_eq_true rfl⟩) (by decide) s_c0 rfl rfl rfl (Nat.le_of_ble_eq_true rfl) ⟨hcl, hsl⟩ dL_law_1007 ?_
  refine x_aload_n B dL_law_1010 rfl 2 rfl ?_
  refine x_aload_n B dL_law_1011 rfl 0 rfl ?_
  refine x_iload_n B dL_law_1012 rfl 3 rfl ?_
  refine x_iconst (v := 1) B dL_law_1013 (by decide) ?_
  refine x_iadd B dL_law_1014 ?_
  refine y_sld B hX hbl hbA (j := j + 1) (nI_add j 1) (by omega) hL dL_law_1015 ?_
  refine x_aload_n B dL_law_1016 rfl 0 rfl ?_
  refine x_iload_n B dL_law_1017 rfl 3 rfl ?_
  refine x_iconst (v := 2) B dL_law_1018 (by decide) ?_
  refine x_iadd B dL_law_1019 ?_
  refine y_sld B hX hbl hbA (j := j + 2) (nI_add j 2) (by omega) hL dL_law_1020 ?_
  refine x_aload_n B dL_law_1021 rfl 0 rfl ?_
  refine x_iload_n B dL_law_1022 rfl 3 rfl ?_
  refine x_iconst (v := 3) B dL_law_1023 (by decide) ?_
  refine x_iadd B dL_law_1024 ?_
  refine y_sld B hX hbl hbA (j := j + 3) (nI_add j 3) (by omega) hL dL_law_1025 ?_
  refine x_aload_n B dL_law_1026 rfl 0 rfl ?_
  refine x_iload_n B dL_law_1027 rfl 3 rfl ?_
  refine x_iconst (v := 4) B dL_law_1028 (by decide) ?_
  refine x_iadd B dL_law_1029 ?_
  refine y_sld B hX hbl hbA (j := j + 4) (nI_add j 4) (by omega) hL dL_law_1030 ?_
  refine x_aload_n B dL_law_1031 rfl 0 rfl ?_
  refine x_iload_n B dL_law_1032 rfl 3 rfl ?_
  refine x_iconst (v := 5) B dL_law_1033 (by decide) ?_
  refine x_iadd B dL_law_1034 ?_
  refine y_sld B hX hbl hbA (j := j + 5) (nI_add j 5) (by omega) hL dL_law_1035 ?_
  refine x_aload_n B dL_law_1036 rfl 0 rfl ?_
  refine x_iload_n B dL_law_1037 rfl 3 rfl ?_
  refine x_bipush (v := 6) B dL_law_1038 (by decide) ?_
  refine x_iadd B dL_law_1040 ?_
  refine y_sld B hX hbl hbA (j := j + 6) (nI_add j 6) (by omega) hL dL_law_1041 ?_
  refine y_swap ?_
  refine y_call (As := [.int (xs (j + 1)), .int (xs (j + 2)), .int (xs (j + 3)), .int (xs (j + 4)), .int (xs (j + 5)), .int (xs (j + 6))]) (st := [.int r]) B GM (y_kept (fun i j hi hj e => hdj j i hj hi e.symm)) (mX8_tremble (l := l) GM.1.2.1 hM) (cwV 6 B.2.2.2.2.1 gL_law_X8_tremble rfl rfl rfl hdX8_tremble ⟨Nat.le_of_ble_eq_true rfl, Nat.le_of_ble_eq_true rfl⟩) (by decide) m_c0 rfl rfl rfl (Nat.le_of_ble_eq_true rfl) ⟨hcl, hsl⟩ dL_law_1042 ?_
  refine y_swap ?_
  refine x_icmp_eq (tgt := 1244) B dL_law_1045 (by decide) (fun _ => ?_) (fun hne => absurd rfl hne)
  exact kk
set_option maxRecDepth 100000 in
set_option maxHeartbeats 4000000 in
theorem y_c24 {σ σ' τ τ' : x_S} {r : Int32} {j : Nat} (X : y_X p s m meth c D cI cQ cC cZ ad aS am b L xs cells slots) (hj : j + 7 ≤ L) (hS : fX7_image (xs (j + 1)) σ = some (r, σ')) (hM : fX8_image (xs (j + 1)) τ = some (r, τ')) (kk : x_J p l e room_1 s m #[Value.ref b] below meth c cells slots Q (y_A s) 4 (y_I D cI cQ cC cZ ad am σ' τ') [(0, .ref b), (1, .ref (ad 0)), (2, .ref (am 0)), (3, .int (nI j))] [] 1244) : x_J p l e room_1 s m #[Value.ref b] below meth c cells slots Q (y_A s) 4 (y_I D cI cQ cC cZ ad am σ τ) [(0, .ref b), (1, .ref (ad 0)), (2, .ref (am 0)), (3, .int (nI j))] [] 1050 := by
  obtain ⟨B, GS, GM, hdj, hX, hbl, hL, hcl, hsl, hr⟩ := X
  have hbA : ¬ y_A s b := Nat.not_le.mpr hbl
  refine x_aload_n B dL_law_1050 rfl 1 rfl ?_
  refine x_aload_n B dL_law_1051 rfl 0 rfl ?_
  refine x_iload_n B dL_law_1052 rfl 3 rfl ?_
  refine x_iconst (v := 1) B dL_law_1053 (by decide) ?_
  refine x_iadd B dL_law_1054 ?_
  refine y_sld B hX hbl hbA (j := j + 1) (nI_add j 1) (by omega) hL dL_law_1055 ?_
  refine y_call (As := [.int (xs (j + 1))]) (st := []) B GS (y_kept hdj) (mX7_image (l := l) (aS := aS) GS.1.2.1 hS) (cwV 1 B.2.2.2.2.1 gL_law_X7_image rfl rfl rfl hdX7_image ⟨Nat.le_of_ble_eq_true rfl, Nat.le_of_ble_eq_true rfl⟩) (by decide) s_c0 rfl rfl rfl (Nat.le_of_ble_eq_true rfl) ⟨hcl, hsl⟩ dL_law_1056 ?_
  refine x_aload_n B dL_law_1059 rfl 2 rfl ?_
  refine x_aload_n B dL_law_1060 rfl 0 rfl ?_
  refine x_iload_n B dL_law_1061 rfl 3 rfl ?_
  refine x_iconst (v := 1) B dL_law_1062 (by decide) ?_
  refine x_iadd B dL_law_1063 ?_
  refine y_sld B hX hbl hbA (j := j + 1) (nI_add j 1) (by omega) hL dL_law_1064 ?_
  refine y_swap ?_
  refine y_call (As := [.int (xs (j + 1))]) (st := [.int r]) B GM (y_kept (fun i j hi hj e => hdj j i hj hi e.symm)) (mX8_image (l := l) GM.1.2.1 hM) (cwV 1 B.2.2.2.2.1 gL_law_X8_image rfl rfl rfl hdX8_image ⟨Nat.le_of_ble_eq_true rfl, Nat.le_of_ble_eq_true rfl⟩) (by decide) m_c0 rfl rfl rfl (Nat.le_of_ble_eq_true rfl) ⟨hcl, hsl⟩ dL_law_1065 ?_
  refine y_swap ?_
  refine x_icmp_eq (tgt := 1244) B dL_law_1068 (by decide) (fun _ => ?_) (fun hne => absurd rfl hne)
  exact kk
set_option maxRecDepth 100000 in
set_option maxHeartbeats 4000000 in
theorem y_c25 {σ σ' τ τ' : x_S} {r : Int32} {j : Nat} (X : y_X p s m meth c D cI cQ cC cZ ad aS am b L xs cells slots) (hj : j + 7 ≤ L) (hS : fX7_restore (xs (j + 1)) σ = some (r, σ')) (hM : fX8_restore (xs (j + 1)) τ = some (r, τ')) (kk : x_J p l e room_1 s m #[Value.ref b] below meth c cells slots Q (y_A s) 4 (y_I D cI cQ cC cZ ad am σ' τ') [(0, .ref b), (1, .ref (ad 0)), (2, .ref (am 0)), (3, .int (nI j))] [] 1244) : x_J p l e room_1 s m #[Value.ref b] below meth c cells slots Q (y_A s) 4 (y_I D cI cQ cC cZ ad am σ τ) [(0, .ref b), (1, .ref (ad 0)), (2, .ref (am 0)), (3, .int (nI j))] [] 1073 := by
  obtain ⟨B, GS, GM, hdj, hX, hbl, hL, hcl, hsl, hr⟩ := X
  have hbA : ¬ y_A s b := Nat.not_le.mpr hbl
  refine x_aload_n B dL_law_1073 rfl 1 rfl ?_
  refine x_aload_n B dL_law_1074 rfl 0 rfl ?_
  refine x_iload_n B dL_law_1075 rfl 3 rfl ?_
  refine x_iconst (v := 1) B dL_law_1076 (by decide) ?_
  refine x_iadd B dL_law_1077 ?_
  refine y_sld B hX hbl hbA (j := j + 1) (nI_add j 1) (by omega) hL dL_law_1078 ?_
  refine y_call (As := [.int (xs (j + 1))]) (st := []) B GS (y_kept hdj) (mX7_restore (l := l) (aS := aS) GS.1.2.1 hS) (cwV 1 B.2.2.2.2.1 gL_law_X7_restore rfl rfl rfl hdX7_restore ⟨Nat.le_of_ble_eq_true rfl, Nat.le_of_ble_eq_true rfl⟩) (by decide) s_c0 rfl rfl rfl (Nat.le_of_ble_eq_true rfl) ⟨hcl, hsl⟩ dL_law_1079 ?_
  refine x_aload_n B dL_law_1082 rfl 2 rfl ?_
  refine x_aload_n B dL_law_1083 rfl 0 rfl ?_
  refine x_iload_n B dL_law_1084 rfl 3 rfl ?_
  refine x_iconst (v := 1) B dL_law_1085 (by decide) ?_
  refine x_iadd B dL_law_1086 ?_
  refine y_sld B hX hbl hbA (j := j + 1) (nI_add j 1) (by omega) hL dL_law_1087 ?_
  refine y_swap ?_
  refine y_call (As := [.int (xs (j + 1))]) (st := [.int r]) B GM (y_kept (fun i j hi hj e => hdj j i hj hi e.symm)) (mX8_restore (l := l) GM.1.2.1 hM) (cwV 1 B.2.2.2.2.1 gL_law_X8_restore rfl rfl rfl hdX8_restore ⟨Nat.le_of_ble_eq_true rfl, Nat.le_of_ble_eq_true rfl⟩) (by decide) m_c0 rfl rfl rfl (Nat.le_of_ble_eq_true rfl) ⟨hcl, hsl⟩ dL_law_1088 ?_
  refine y_swap ?_
  refine x_icmp_eq (tgt := 1244) B dL_law_1091 (by decide) (fun _ => ?_) (fun hne => absurd rfl hne)
  exact kk
set_option maxRecDepth 100000 in
set_option maxHeartbeats 4000000 in
theorem y_c26 {σ σ' τ τ' : x_S} {r : Int32} {j : Nat} (X : y_X p s m meth c D cI cQ cC cZ ad aS am b L xs cells slots) (hj : j + 7 ≤ L) (hS : fX7_kind (xs (j + 1)) σ = some r) (hM : fX8_kind (xs (j + 1)) τ = some r) (kk : x_J p l e room_1 s m #[Value.ref b] below meth c cells slots Q (y_A s) 4 (y_I D cI cQ cC cZ ad am σ τ) [(0, .ref b), (1, .ref (ad 0)), (2, .ref (am 0)), (3, .int (nI j))] [] 1244) : x_J p l e room_1 s m #[Value.ref b] below meth c cells slots Q (y_A s) 4 (y_I D cI cQ cC cZ ad am σ τ) [(0, .ref b), (1, .ref (ad 0)), (2, .ref (am 0)), (3, .int (nI j))] [] 1096 := by
  obtain ⟨B, GS, GM, hdj, hX, hbl, hL, hcl, hsl, hr⟩ := X
  have hbA : ¬ y_A s b := Nat.not_le.mpr hbl
  refine x_aload_n B dL_law_1096 rfl 1 rfl ?_
  refine x_aload_n B dL_law_1097 rfl 0 rfl ?_
  refine x_iload_n B dL_law_1098 rfl 3 rfl ?_
  refine x_iconst (v := 1) B dL_law_1099 (by decide) ?_
  refine x_iadd B dL_law_1100 ?_
  refine y_sld B hX hbl hbA (j := j + 1) (nI_add j 1) (by omega) hL dL_law_1101 ?_
  refine y_call (As := [.int (xs (j + 1))]) (st := []) B GS (y_kept hdj) (mX7_kind (l := l) (aS := aS) GS.1.2.1 hS) (cwV 1 B.2.2.2.2.1 gL_law_X7_kind rfl rfl rfl hdX7_kind ⟨Nat.le_of_ble_eq_true rfl, Nat.le_of_ble_eq_true rfl⟩) (by decide) s_c0 rfl rfl rfl (Nat.le_of_ble_eq_true rfl) ⟨hcl, hsl⟩ dL_law_1102 ?_
  refine x_aload_n B dL_law_1105 rfl 2 rfl ?_
  refine x_aload_n B dL_law_1106 rfl 0 rfl ?_
  refine x_iload_n B dL_law_1107 rfl 3 rfl ?_
  refine x_iconst (v := 1) B dL_law_1108 (by decide) ?_
  refine x_iadd B dL_law_1109 ?_
  refine y_sld B hX hbl hbA (j := j + 1) (nI_add j 1) (by omega) hL dL_law_1110 ?_
  refine y_swap ?_
  refine y_call (As := [.int (xs (j + 1))]) (st := [.int r]) B GM (y_kept (fun i j hi hj e => hdj j i hj hi e.symm)) (mX8_kind (l := l) GM.1.2.1 hM) (cwV 1 B.2.2.2.2.1 gL_law_X8_kind rfl rfl rfl hdX8_kind ⟨Nat.le_of_ble_eq_true rfl, Nat.le_of_ble_eq_true rfl⟩) (by decide) m_c0 rfl rfl rfl (Nat.le_of_ble_eq_true rfl) ⟨hcl, hsl⟩ dL_law_1111 ?_
  refine y_swap ?_
  refine x_icmp_eq (tgt := 1244) B dL_law_1114 (by decide) (fun _ => ?_) (fun hne => absurd rfl hne)
  exact kk
set_option maxRecDepth 100000 in
set_option maxHeartbeats 4000000 in
theorem y_c27 {σ σ' τ τ' : x_S} {r : Int32} {j : Nat} (X : y_X p s m meth c D cI cQ cC cZ ad aS am b L xs cells slots) (hj : j + 7 ≤ L) (hS : fX7_as (xs (j + 1)) (xs (j + 2)) σ = some (r, σ')) (hM : fX8_as (xs (j + 1)) (xs (j + 2)) τ = some (r, τ')) (kk : x_J p l e room_1 s m #[Value.ref b] below meth c cells slots Q (y_A s) 4 (y_I D cI cQ cC cZ ad am σ' τ') [(0, .ref b), (1, .ref (ad 0)), (2, .ref (am 0)), (3, .int (nI j))] [] 1244) : x_J p l e room_1 s m #[Value.ref b] below meth c cells slots Q (y_A s) 4 (y_I D cI cQ cC cZ ad am σ τ) [(0, .ref b), (1, .ref (ad 0)), (2, .ref (am 0)), (3, .int (nI j))] [] 1119 := by
  obtain ⟨B, GS, GM, hdj, hX, hbl, hL, hcl, hsl, hr⟩ := X
  have hbA : ¬ y_A s b := Nat.not_le.mpr hbl
  refine x_aload_n B dL_law_1119 rfl 1 rfl ?_
  refine x_aload_n B dL_law_1120 rfl 0 rfl ?_
  refine x_iload_n B dL_law_1121 rfl 3 rfl ?_
  refine x_iconst (v := 1) B dL_law_1122 (by decide) ?_
  refine x_iadd B dL_law_1123 ?_
  refine y_sld B hX hbl hbA (j := j + 1) (nI_add j 1) (by omega) hL dL_law_1124 ?_
  refine x_aload_n B dL_law_1125 rfl 0 rfl ?_
  refine x_iload_n B dL_law_1126 rfl 3 rfl ?_
  refine x_iconst (v := 2) B dL_law_1127 (by decide) ?_
  refine x_iadd B dL_law_1128 ?_
  refine y_sld B hX hbl hbA (j := j + 2) (nI_add j 2) (by omega) hL dL_law_1129 ?_
  refine y_call (As := [.int (xs (j + 1)), .int (xs (j + 2))]) (st := []) B GS (y_kept hdj) (mX7_as (l := l) (aS := aS) GS.1.2.1 hS) (cwV 2 B.2.2.2.2.1 gL_law_X7_as rfl rfl rfl hdX7_as ⟨Nat.le_of_ble_eq_true rfl, Nat.le_of_ble_eq_true rfl⟩) (by decide) s_c0 rfl rfl rfl (Nat.le_of_ble_eq_true rfl) ⟨hcl, hsl⟩ dL_law_1130 ?_
  refine x_aload_n B dL_law_1133 rfl 2 rfl ?_
  refine x_aload_n B dL_law_1134 rfl 0 rfl ?_
  refine x_iload_n B dL_law_1135 rfl 3 rfl ?_
  refine x_iconst (v := 1) B dL_law_1136 (by decide) ?_
  refine x_iadd B dL_law_1137 ?_
  refine y_sld B hX hbl hbA (j := j + 1) (nI_add j 1) (by omega) hL dL_law_1138 ?_
  refine x_aload_n B dL_law_1139 rfl 0 rfl ?_
  refine x_iload_n B dL_law_1140 rfl 3 rfl ?_
  refine x_iconst (v := 2) B dL_law_1141 (by decide) ?_
  refine x_iadd B dL_law_1142 ?_
  refine y_sld B hX hbl hbA (j := j + 2) (nI_add j 2) (by omega) hL dL_law_1143 ?_
  refine y_swap ?_
  refine y_call (As := [.int (xs (j + 1)), .int (xs (j + 2))]) (st := [.int r]) B GM (y_kept (fun i j hi hj e => hdj j i hj hi e.symm)) (mX8_as (l := l) GM.1.2.1 hM) (cwV 2 B.2.2.2.2.1 gL_law_X8_as rfl rfl rfl hdX8_as ⟨Nat.le_of_ble_eq_true rfl, Nat.le_of_ble_eq_true rfl⟩) (by decide) m_c0 rfl rfl rfl (Nat.le_of_ble_eq_true rfl) ⟨hcl, hsl⟩ dL_law_1144 ?_
  refine y_swap ?_
  refine x_icmp_eq (tgt := 1244) B dL_law_1147 (by decide) (fun _ => ?_) (fun hne => absurd rfl hne)
  exact kk
set_option maxRecDepth 100000 in
set_option maxHeartbeats 4000000 in
theorem y_c28 {σ σ' τ τ' : x_S} {r : Int32} {j : Nat} (X : y_X p s m meth c D cI cQ cC cZ ad aS am b L xs cells slots) (hj : j + 7 ≤ L) (hS : fX7_ask (xs (j + 1)) (xs (j + 2)) σ = some (r, σ')) (hM : fX8_ask (xs (j + 1)) (xs (j + 2)) τ = some (r, τ')) (kk : x_J p l e room_1 s m #[Value.ref b] below meth c cells slots Q (y_A s) 4 (y_I D cI cQ cC cZ ad am σ' τ') [(0, .ref b), (1, .ref (ad 0)), (2, .ref (am 0)), (3, .int (nI j))] [] 1244) : x_J p l e room_1 s m #[Value.ref b] below meth c cells slots Q (y_A s) 4 (y_I D cI cQ cC cZ ad am σ τ) [(0, .ref b), (1, .ref (ad 0)), (2, .ref (am 0)), (3, .int (nI j))] [] 1152 := by
  obtain ⟨B, GS, GM, hdj, hX, hbl, hL, hcl, hsl, hr⟩ := X
  have hbA : ¬ y_A s b := Nat.not_le.mpr hbl
  refine x_aload_n B dL_law_1152 rfl 1 rfl ?_
  refine x_aload_n B dL_law_1153 rfl 0 rfl ?_
  refine x_iload_n B dL_law_1154 rfl 3 rfl ?_
  refine x_iconst (v := 1) B dL_law_1155 (by decide) ?_
  refine x_iadd B dL_law_1156 ?_
  refine y_sld B hX hbl hbA (j := j + 1) (nI_add j 1) (by omega) hL dL_law_1157 ?_
  refine x_aload_n B dL_law_1158 rfl 0 rfl ?_
  refine x_iload_n B dL_law_1159 rfl 3 rfl ?_
  refine x_iconst (v := 2) B dL_law_1160 (by decide) ?_
  refine x_iadd B dL_law_1161 ?_
  refine y_sld B hX hbl hbA (j := j + 2) (nI_add j 2) (by omega) hL dL_law_1162 ?_
  refine y_call (As := [.int (xs (j + 1)), .int (xs (j + 2))]) (st := []) B GS (y_kept hdj) (mX7_ask (l := l) (aS := aS) GS.1.2.1 hS) (cwV 2 B.2.2.2.2.1 gL_law_X7_ask rfl rfl rfl hdX7_ask ⟨Nat.le_of_ble_eq_true rfl, Nat.le_of_ble_eq_true rfl⟩) (by decide) s_c0 rfl rfl rfl (Nat.le_of_ble_eq_true rfl) ⟨hcl, hsl⟩ dL_law_1163 ?_
  refine x_aload_n B dL_law_1166 rfl 2 rfl ?_
  refine x_aload_n B dL_law_1167 rfl 0 rfl ?_
  refine x_iload_n B dL_law_1168 rfl 3 rfl ?_
  refine x_iconst (v := 1) B dL_law_1169 (by decide) ?_
  refine x_iadd B dL_law_1170 ?_
  refine y_sld B hX hbl hbA (j := j + 1) (nI_add j 1) (by omega) hL dL_law_1171 ?_
  refine x_aload_n B dL_law_1172 rfl 0 rfl ?_
  refine x_iload_n B dL_law_1173 rfl 3 rfl ?_
  refine x_iconst (v := 2) B dL_law_1174 (by decide) ?_
  refine x_iadd B dL_law_1175 ?_
  refine y_sld B hX hbl hbA (j := j + 2) (nI_add j 2) (by omega) hL dL_law_1176 ?_
  refine y_swap ?_
  refine y_call (As := [.int (xs (j + 1)), .int (xs (j + 2))]) (st := [.int r]) B GM (y_kept (fun i j hi hj e => hdj j i hj hi e.symm)) (mX8_ask (l := l) GM.1.2.1 hM) (cwV 2 B.2.2.2.2.1 gL_law_X8_ask rfl rfl rfl hdX8_ask ⟨Nat.le_of_ble_eq_true rfl, Nat.le_of_ble_eq_true rfl⟩) (by decide) m_c0 rfl rfl rfl (Nat.le_of_ble_eq_true rfl) ⟨hcl, hsl⟩ dL_law_1177 ?_
  refine y_swap ?_
  refine x_icmp_eq (tgt := 1244) B dL_law_1180 (by decide) (fun _ => ?_) (fun hne => absurd rfl hne)
  exact kk
set_option maxRecDepth 100000 in
set_option maxHeartbeats 4000000 in
theorem y_c29 {σ σ' τ τ' : x_S} {r : Int32} {j : Nat} (X : y_X p s m meth c D cI cQ cC cZ ad aS am b L xs cells slots) (hj : j + 7 ≤ L) (hS : fX7_trace (xs (j + 1)) σ = some r) (hM : fX8_trace (xs (j + 1)) τ = some r) (kk : x_J p l e room_1 s m #[Value.ref b] below meth c cells slots Q (y_A s) 4 (y_I D cI cQ cC cZ ad am σ τ) [(0, .ref b), (1, .ref (ad 0)), (2, .ref (am 0)), (3, .int (nI j))] [] 1244) : x_J p l e room_1 s m #[Value.ref b] below meth c cells slots Q (y_A s) 4 (y_I D cI cQ cC cZ ad am σ τ) [(0, .ref b), (1, .ref (ad 0)), (2, .ref (am 0)), (3, .int (nI j))] [] 1185 := by
  obtain ⟨B, GS, GM, hdj, hX, hbl, hL, hcl, hsl, hr⟩ := X
  have hbA : ¬ y_A s b := Nat.not_le.mpr hbl
  refine x_aload_n B dL_law_1185 rfl 1 rfl ?_
  refine x_aload_n B dL_law_1186 rfl 0 rfl ?_
  refine x_iload_n B dL_law_1187 rfl 3 rfl ?_
  refine x_iconst (v := 1) B dL_law_1188 (by decide) ?_
  refine x_iadd B dL_law_1189 ?_
  refine y_sld B hX hbl hbA (j := j + 1) (nI_add j 1) (by omega) hL dL_law_1190 ?_
  refine y_call (As := [.int (xs (j + 1))]) (st := []) B GS (y_kept hdj) (mX7_trace (l := l) (aS := aS) GS.1.2.1 hS) (cwV 1 B.2.2.2.2.1 gL_law_X7_trace rfl rfl rfl hdX7_trace ⟨Nat.le_of_ble_eq_true rfl, Nat.le_of_ble_eq_true rfl⟩) (by decide) s_c0 rfl rfl rfl (Nat.le_of_ble_eq_true rfl) ⟨hcl, hsl⟩ dL_law_1191 ?_
  refine x_aload_n B dL_law_1194 rfl 2 rfl ?_
  refine x_aload_n B dL_law_1195 rfl 0 rfl ?_
  refine x_iload_n B dL_law_1196 rfl 3 rfl ?_
  refine x_iconst (v := 1) B dL_law_1197 (by decide) ?_
  refine x_iadd B dL_law_1198 ?_
  refine y_sld B hX hbl hbA (j := j + 1) (nI_add j 1) (by omega) hL dL_law_1199 ?_
  refine y_swap ?_
  refine y_call (As := [.int (xs (j + 1))]) (st := [.int r]) B GM (y_kept (fun i j hi hj e => hdj j i hj hi e.symm)) (mX8_trace (l := l) GM.1.2.1 hM) (cwV 1 B.2.2.2.2.1 gL_law_X8_trace rfl rfl rfl hdX8_trace ⟨Nat.le_of_ble_eq_true rfl, Nat.le_of_ble_eq_true rfl⟩) (by decide) m_c0 rfl rfl rfl (Nat.le_of_ble_eq_true rfl) ⟨hcl, hsl⟩ dL_law_1200 ?_
  refine y_swap ?_
  refine x_icmp_eq (tgt := 1244) B dL_law_1203 (by decide) (fun _ => ?_) (fun hne => absurd rfl hne)
  exact kk
set_option maxRecDepth 100000 in
set_option maxHeartbeats 4000000 in
theorem y_c30 {σ σ' τ τ' : x_S} {r : Int32} {j : Nat} (X : y_X p s m meth c D cI cQ cC cZ ad aS am b L xs cells slots) (hj : j + 7 ≤ L) (hS : fX7_count (xs (j + 1)) σ = some r) (hM : fX8_count (xs (j + 1)) τ = some r) (kk : x_J p l e room_1 s m #[Value.ref b] below meth c cells slots Q (y_A s) 4 (y_I D cI cQ cC cZ ad am σ τ) [(0, .ref b), (1, .ref (ad 0)), (2, .ref (am 0)), (3, .int (nI j))] [] 1244) : x_J p l e room_1 s m #[Value.ref b] below meth c cells slots Q (y_A s) 4 (y_I D cI cQ cC cZ ad am σ τ) [(0, .ref b), (1, .ref (ad 0)), (2, .ref (am 0)), (3, .int (nI j))] [] 1208 := by
  obtain ⟨B, GS, GM, hdj, hX, hbl, hL, hcl, hsl, hr⟩ := X
  have hbA : ¬ y_A s b := Nat.not_le.mpr hbl
  refine x_aload_n B dL_law_1208 rfl 1 rfl ?_
  refine x_aload_n B dL_law_1209 rfl 0 rfl ?_
  refine x_iload_n B dL_law_1210 rfl 3 rfl ?_
  refine x_iconst (v := 1) B dL_law_1211 (by decide) ?_
  refine x_iadd B dL_law_1212 ?_
  refine y_sld B hX hbl hbA (j := j + 1) (nI_add j 1) (by omega) hL dL_law_1213 ?_
  refine y_call (As := [.int (xs (j + 1))]) (st := []) B GS (y_kept hdj) (mX7_count (l := l) (aS := aS) GS.1.2.1 hS) (cwV 1 B.2.2.2.2.1 gL_law_X7_count rfl rfl rfl hdX7_count ⟨Nat.le_of_ble_eq_true rfl, Nat.le_of_ble_eq_true rfl⟩) (by decide) s_c0 rfl rfl rfl (Nat.le_of_ble_eq_true rfl) ⟨hcl, hsl⟩ dL_law_1214 ?_
  refine x_aload_n B dL_law_1217 rfl 2 rfl ?_
  refine x_aload_n B dL_law_1218 rfl 0 rfl ?_
  refine x_iload_n B dL_law_1219 rfl 3 rfl ?_
  refine x_iconst (v := 1) B dL_law_1220 (by decide) ?_
  refine x_iadd B dL_law_1221 ?_
  refine y_sld B hX hbl hbA (j := j + 1) (nI_add j 1) (by omega) hL dL_law_1222 ?_
  refine y_swap ?_
  refine y_call (As := [.int (xs (j + 1))]) (st := [.int r]) B GM (y_kept (fun i j hi hj e => hdj j i hj hi e.symm)) (mX8_count (l := l) GM.1.2.1 hM) (cwV 1 B.2.2.2.2.1 gL_law_X8_count rfl rfl rfl hdX8_count ⟨Nat.le_of_ble_eq_true rfl, Nat.le_of_ble_eq_true rfl⟩) (by decide) m_c0 rfl rfl rfl (Nat.le_of_ble_eq_true rfl) ⟨hcl, hsl⟩ dL_law_1223 ?_
  refine y_swap ?_
  refine x_icmp_eq (tgt := 1244) B dL_law_1226 (by decide) (fun _ => ?_) (fun hne => absurd rfl hne)
  exact kk
set_option maxRecDepth 100000 in
set_option maxHeartbeats 4000000 in
theorem y_c31 {σ σ' τ τ' : x_S} {r : Int32} {j : Nat} (X : y_X p s m meth c D cI cQ cC cZ ad aS am b L xs cells slots) (hj : j + 7 ≤ L) (hS : fX7_status σ = some r) (hM : fX8_status τ = some r) (kk : x_J p l e room_1 s m #[Value.ref b] below meth c cells slots Q (y_A s) 4 (y_I D cI cQ cC cZ ad am σ τ) [(0, .ref b), (1, .ref (ad 0)), (2, .ref (am 0)), (3, .int (nI j))] [] 1244) : x_J p l e room_1 s m #[Value.ref b] below meth c cells slots Q (y_A s) 4 (y_I D cI cQ cC cZ ad am σ τ) [(0, .ref b), (1, .ref (ad 0)), (2, .ref (am 0)), (3, .int (nI j))] [] 1231 := by
  obtain ⟨B, GS, GM, hdj, hX, hbl, hL, hcl, hsl, hr⟩ := X
  have hbA : ¬ y_A s b := Nat.not_le.mpr hbl
  refine x_aload_n B dL_law_1231 rfl 1 rfl ?_
  refine y_call (As := []) (st := []) B GS (y_kept hdj) (mX7_status (l := l) (aS := aS) GS.1.2.1 hS) (cwV 0 B.2.2.2.2.1 gL_law_X7_status rfl rfl rfl hdX7_status ⟨Nat.le_of_ble_eq_true rfl, Nat.le_of_ble_eq_true rfl⟩) (by decide) s_c0 rfl rfl rfl (Nat.le_of_ble_eq_true rfl) ⟨hcl, hsl⟩ dL_law_1232 ?_
  refine x_aload_n B dL_law_1235 rfl 2 rfl ?_
  refine y_swap ?_
  refine y_call (As := []) (st := [.int r]) B GM (y_kept (fun i j hi hj e => hdj j i hj hi e.symm)) (mX8_status (l := l) GM.1.2.1 hM) (cwV 0 B.2.2.2.2.1 gL_law_X8_status rfl rfl rfl hdX8_status ⟨Nat.le_of_ble_eq_true rfl, Nat.le_of_ble_eq_true rfl⟩) (by decide) m_c0 rfl rfl rfl (Nat.le_of_ble_eq_true rfl) ⟨hcl, hsl⟩ dL_law_1236 ?_
  refine y_swap ?_
  refine x_icmp_eq (tgt := 1244) B dL_law_1239 (by decide) (fun _ => ?_) (fun hne => absurd rfl hne)
  exact kk
end LW
