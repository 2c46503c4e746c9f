/-- the reference's table of costs -/
theorem z_layM {τ : x_S} {v : z_V} (hM : z_M τ 0 v) (hv : z_ok v) (m : Int32) {a b : Nat} (hab : a ≤ b) (hb : b < v 1) : ∃ τ', fX8_layCosts m (nI a) (nI b) τ = some τ' ∧ (∀ c, c ≠ 8 → τ' c = τ c) ∧ ∀ s, a ≤ s → s ≤ b + 1 → ∀ t, t < 100 → τ' 8 (100 * s + t) = nI (z_cost v m (b + 1) (b + 1 - s) t) := by
  have h7 := hv.2.1
  have h6 := hv.2.2.1
  obtain ⟨f1, f2, f3⟩ := z_fold_0 8 (100 * (b + 1)) 0 100 0 τ
  have M1 : z_M (z_fold (fun i σ => x_u σ 8 (100 * (b + 1) + i) 0) 0 100 τ) 0 v := z_M_c hM ⟨h7, h6⟩ (fun k _ => by rw [f1 1 (by decide)])
  obtain ⟨τ', t1, t2, t3, t4⟩ := z_lay34 hv m (a := a) (e := b + 1) (by omega) (b + 1 - a) b x_F (z_fold (fun i σ => x_u σ 8 (100 * (b + 1) + i) 0) 0 100 τ) (by omega) (by omega) (z_fuel (by omega)) M1 (fun t ht => by
    rw [f3 t (Nat.zero_le _) (by omega), Nat.sub_self]
    rfl)
  refine ⟨τ', ?_, fun c hc => (t2 c hc).trans (f1 c hc), fun s g1 g2 t ht => ?_⟩
  · unfold fX8_layCosts bX8_layCosts_3
    refine (z_loopS (N := 100) (r := fun a1 => bX8_layCosts_34 m (nI a) (nI b) a1) (f := fun i σ => x_u σ 8 (100 * (b + 1) + i) 0) (fun K u i hi => ?_) (fun K u => ?_) 100 x_F 0 τ (by omega) (z_fuel (by omega))).trans t1
    · show gX8_layCosts_3 m (nI a) (nI b) K (nI i) u = _
      unfold gX8_layCosts_3
      rw [if_neg (fun z => by have := (z_geL (a := i) (y := (100 : Int32)) 100 rfl (by omega) (by decide)).mp z; omega), nI_1, z_e100, z_gi (n := 800) (by omega) (by decide), z_w, z_cl (by omega), nI_1]
    · show gX8_layCosts_3 m (nI a) (nI b) K (nI 100) u = _
      unfold gX8_layCosts_3
      rw [if_pos (by decide)]
  · by_cases e : s = b + 1
    · subst e
      rw [t3 _ (by omega), f3 t (Nat.zero_le _) (by omega), Nat.sub_self]
      rfl
    · exact t4 s g1 (by omega) t ht
