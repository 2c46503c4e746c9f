theorem z_lay43 {v : z_V} (hv : z_ok v) (m : Int32) {s : Nat} {nx : Nat → Nat} (hs : s < v 1) (hle : ∀ t, nx t ≤ 1000000) (K34 : Int32 → x_S → Option x_S) (x2 : Int32) : ∀ d t f τ, t + d = 100 → d < f → z_M τ 0 v → (∀ t, t < 100 → τ 8 (100 * (s + 1) + t) = nI (nx t)) → ∃ τ', x_fx (α := Int32 → x_S → Option x_S) (fun _ _ => none) (fun K => fun x5 σ => gX8_layCosts_43 K34 m x2 (nI s) K x5 σ) f (nI t) τ = K34 (nI s + (-1)) τ' ∧ (∀ c, c ≠ 8 → τ' c = τ c) ∧ (∀ j, (j < 100 * s + t ∨ 100 * s + 100 ≤ j) → τ' 8 j = τ 8 j) ∧ ∀ t2, t ≤ t2 → t2 < 100 → τ' 8 (100 * s + t2) = nI (z_fold (z_cs v m s nx t2) 0 (v 2) 1000000) := by
  have h7 := hv.2.1
  have h6 := hv.2.2.1
  intro d
  induction d with
  | zero =>
    intro t f τ ht hf hM hnx
    cases f with
    | zero => exact absurd hf (by omega)
    | succ f =>
      have e : t = 100 := by omega
      subst e
      refine ⟨τ, ?_, fun _ _ => rfl, fun _ _ => rfl, fun t2 g1 g2 => absurd g2 (by omega)⟩
      show gX8_layCosts_43 K34 m x2 (nI s) _ (nI 100) τ = _
      unfold gX8_layCosts_43
      rw [if_pos (by decide)]
  | succ d ih =>
    intro t f τ ht hf hM hnx
    cases f with
    | zero => exact absurd hf (by omega)
    | succ f =>
      have step : ∀ K : Int32 → x_S → Option x_S, ∃ τ1, gX8_layCosts_43 K34 m x2 (nI s) K (nI t) τ = K (nI (t + 1)) τ1 ∧ (∀ c, c ≠ 8 → τ1 c = τ c) ∧ (∀ j, j ≠ 100 * s + t → τ1 8 j = τ 8 j) ∧ τ1 8 (100 * s + t) = nI (z_fold (z_cs v m s nx t) 0 (v 2) 1000000) := by
        intro K
        obtain ⟨τ1, t1, t2, t3, t4⟩ := z_lay68 hv m hs (show t < 100 by omega) hle K34 K x2 (v 2) 0 x_F 1000000 (x_u τ 8 (100 * s + t) (nI 1000000)) (by omega) (z_fuel (by omega)) (Nat.le_refl _) (z_M_c hM ⟨h7, h6⟩ (fun k _ => by rw [z_uk (by decide)])) (fun t2 ht2 => by rw [z_ui (by omega)]; exact hnx t2 ht2) (z_us _ _ _ _)
        refine ⟨τ1, ?_, fun c hc => (t2 c hc).trans (z_uk hc), fun j hj => (t3 j hj).trans (z_ui hj), t4⟩
        unfold gX8_layCosts_43 bX8_layCosts_68
        rw [if_neg (fun z => by have := (z_geL (a := t) (y := (100 : Int32)) 100 rfl (by omega) (by decide)).mp z; omega), z_e100, z_gi (n := 800) (by omega) (by decide), z_w, z_cl (by omega)]
        exact t1
      obtain ⟨τ1, s1, s2, s3, s4⟩ := step (x_fx (α := Int32 → x_S → Option x_S) (fun _ _ => none) (fun K => fun x5 σ => gX8_layCosts_43 K34 m x2 (nI s) K x5 σ) f)
      obtain ⟨τ2, t1, t2, t3, t4⟩ := ih (t + 1) f τ1 (by omega) (by omega) (z_M_c hM ⟨h7, h6⟩ (fun k _ => by rw [s2 1 (by decide)])) (fun t2 ht2 => by rw [s3 _ (by omega)]; exact hnx t2 ht2)
      refine ⟨τ2, Eq.trans s1 t1, fun c hc => (t2 c hc).trans (s2 c hc), fun j hj => (t3 j (by omega)).trans (s3 j (by omega)), fun t3' g1 g2 => ?_⟩
      by_cases e : t3' = t
      · subst e; exact (t3 _ (by omega)).trans s4
      · exact t4 t3' (by omega) g2
theorem z_lay34 {v : z_V} (hv : z_ok v) (m : Int32) {a e : Nat} (he : e ≤ v 1) : ∀ d s f τ, a + d = s + 1 → s < e → d < f → z_M τ 0 v → (∀ t, t < 100 → τ 8 (100 * (s + 1) + t) = nI (z_cost v m e (e - (s + 1)) t)) → ∃ τ', x_fx (α := Int32 → x_S → Option x_S) (fun _ _ => none) (fun K => fun x4 σ => gX8_layCosts_34 m (nI a) K x4 σ) f (nI s) τ = some τ' ∧ (∀ c, c ≠ 8 → τ' c = τ c) ∧ (∀ j, 100 * (s + 1) ≤ j → τ' 8 j = τ 8 j) ∧ ∀ s2, a ≤ s2 → s2 ≤ s → ∀ t, t < 100 → τ' 8 (100 * s2 + t) = nI (z_cost v m e (e - s2) t) := by
  have h7 := hv.2.1
  have h6 := hv.2.2.1
  intro d
  induction d with
  | zero =>
    intro s f τ hd hse hf hM hnx
    cases f with
    | zero => exact absurd hf (by omega)
    | succ f =>
      refine ⟨τ, ?_, fun _ _ => rfl, fun _ _ => rfl, fun s2 g1 g2 => absurd g2 (by omega)⟩
      show gX8_layCosts_34 m (nI a) _ (nI s) τ = _
      unfold gX8_layCosts_34
      rw [if_pos (nI_lt (by omega) (by omega))]
  | succ d ih =>
    intro s f τ hd hse hf hM hnx
    cases f with
    | zero => exact absurd hf (by omega)
    | succ f =>
      have row : ∀ τ1 : x_S, (∀ t2, 0 ≤ t2 → t2 < 100 → τ1 8 (100 * s + t2) = nI (z_fold (z_cs v m s (z_cost v m e (e - (s + 1))) t2) 0 (v 2) 1000000)) → ∀ t, t < 100 → τ1 8 (100 * s + t) = nI (z_cost v m e (e - s) t) := by
        intro τ1 h t ht
        have e1 : e - s = (e - (s + 1)) + 1 := by omega
        have e2 : e - (e - (s + 1) + 1) = s := by omega
        rw [h t (Nat.zero_le _) ht, e1]
        show _ = nI (z_fold (z_cs v m (e - (e - (s + 1) + 1)) (z_cost v m e (e - (s + 1))) t) 0 (v 2) 1000000)
        rw [e2]
      obtain ⟨τ1, s1, s2, s3, s4⟩ := z_lay43 hv m (show s < v 1 by omega) (z_cost_le v m e (e - (s + 1))) (x_fx (α := Int32 → x_S → Option x_S) (fun _ _ => none) (fun K => fun x4 σ => gX8_layCosts_34 m (nI a) K x4 σ) f) (nI a) 100 0 x_F τ (by omega) (z_fuel (by omega)) hM hnx
      have u : gX8_layCosts_34 m (nI a) (x_fx (α := Int32 → x_S → Option x_S) (fun _ _ => none) (fun K => fun x4 σ => gX8_layCosts_34 m (nI a) K x4 σ) f) (nI s) τ = x_fx (α := Int32 → x_S → Option x_S) (fun _ _ => none) (fun K => fun x4 σ => gX8_layCosts_34 m (nI a) K x4 σ) f (nI s + (-1)) τ1 := by
        refine Eq.trans ?_ s1
        generalize x_fx (α := Int32 → x_S → Option x_S) (fun _ _ => none) (fun K => fun x4 σ => gX8_layCosts_34 m (nI a) K x4 σ) f = K34
        unfold gX8_layCosts_34 bX8_layCosts_43
        rw [if_neg (nI_nlt (by omega) (by omega))]
        rfl
      have M1 : z_M τ1 0 v := z_M_c hM ⟨h7, h6⟩ (fun k _ => by rw [s2 1 (by decide)])
      cases d with
      | zero =>
        have es : s = a := by omega
        subst es
        cases f with
        | zero => exact absurd hf (by omega)
        | succ f =>
          refine ⟨τ1, u.trans ?_, s2, fun j hj => s3 j (by omega), fun s2' g1 g2 t ht => ?_⟩
          · show gX8_layCosts_34 m (nI s) _ (nI s + (-1)) τ1 = _
            unfold gX8_layCosts_34
            have hlt : nI s + (-1) < nI s := by
              cases s with
              | zero => decide
              | succ s => rw [pk_m1]; exact nI_lt (by omega) (by omega)
            rw [if_pos hlt]
          · have e2 : s2' = s := by omega
            subst e2
            exact row τ1 s4 t ht
      | succ d =>
        cases s with
        | zero => exact absurd hd (by omega)
        | succ s =>
          rw [pk_m1] at u
          obtain ⟨τ2, t1, t2, t3, t4⟩ := ih s f τ1 (by omega) (by omega) (by omega) M1 (row τ1 s4)
          refine ⟨τ2, u.trans t1, fun c hc => (t2 c hc).trans (s2 c hc), fun j hj => (t3 j (by omega)).trans (s3 j (by omega)), fun s2' g1 g2 t ht => ?_⟩
          by_cases e2 : s2' = s + 1
          · subst e2
            exact (t3 _ (by omega)).trans (row τ1 s4 t ht)
          · exact t4 s2' g1 (by omega) t ht
