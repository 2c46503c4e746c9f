theorem z_fill42 {v : z_V} (hv : z_ok v) (m : Int32) {s T : Nat} {nx : Nat → Nat} (hs : s < v 1) (hT : T < 100) (hle : ∀ t, nx t ≤ 1000000) (K33 : Int32 → x_S → Option x_S) (x3 : Int32) {σ : x_S} (hS : z_S σ 32 v) (hnx : ∀ t, t ≤ T → σ (22 + (s + 1)) t = nI (nx t)) : ∃ σ', bX6_fill_42 K33 32 m x3 (nI T) (nI s) 0 σ = K33 (nI s + (-1)) σ' ∧ (∀ c, c ≠ 22 + s → σ' c = σ c) ∧ ∀ t, t ≤ T → σ' (22 + s) t = nI (z_fold (z_cs v m s nx t) 0 (v 2) 1000000) := by
  have h7 := hv.2.1
  obtain ⟨f1, f2, f3⟩ := z_fold_0 (22 + s) 0 1000000 (T + 1) 0 σ
  obtain ⟨σ', t1, t2, t3⟩ := z_fill70 hv m hs hT hle K33 x3 (v 2) 0 x_F (fun _ => 1000000) (z_fold (fun i σ => x_u σ (22 + s) (0 + i) 1000000) 0 (T + 1) σ) (by omega) (z_fuel (by have := hv.2.2.1; omega)) (fun _ => Nat.le_refl _) (z_S_c hS (fun k g1 g2 => f1 k (by omega))) (fun t ht => by rw [f1 _ (by omega)]; exact hnx t ht) (fun t ht => by
    have := f3 t (Nat.zero_le _) (by omega)
    rw [Nat.zero_add] at this
    exact this)
  refine ⟨σ', ?_, fun c hc => (t2 c hc).trans (f1 c hc), t3⟩
  unfold bX6_fill_42
  refine (z_loopS (N := T + 1) (r := fun a1 => bX6_fill_70 K33 32 m x3 (nI T) (nI s) 0 a1) (f := fun i σ => x_u σ (22 + s) (0 + i) 1000000) (fun K u i hi => ?_) (fun K u => ?_) (T + 1) x_F 0 σ (by omega) (z_fuel (by omega))).trans t1
  · show gX6_fill_42 K33 32 m x3 (nI T) (nI s) K (nI i) u = _
    unfold gX6_fill_42
    rw [if_neg (nI_nlt (by omega) (by omega)), z_gi (n := 8) (by omega) (by decide), z_gi (n := 100) (by omega) (by decide), z_w, z_cl (by omega), z_cl (by omega), nI_1, Nat.zero_add]
  · show gX6_fill_42 K33 32 m x3 (nI T) (nI s) K (nI (T + 1)) u = _
    unfold gX6_fill_42
    rw [if_pos (nI_lt (by omega) (by omega))]
