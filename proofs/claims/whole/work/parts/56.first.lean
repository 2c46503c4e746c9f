/-! ===== pure: the first worlds, the reading ops ===== -/
theorem z_Rel_0 {σ τ : x_S} (h1 : ∀ k j, k ≠ 11 → σ k j = 0) (h2 : ∀ r, r < 8 → σ 11 r = -1) (g1 : ∀ k j, k ≠ 4 → τ k j = 0) (g2 : ∀ r, r < 8 → τ 4 r = -1) : z_Rel σ τ := by
  have z0 : (nI 0 : Int32) = 0 := rfl
  have ok : z_ok (fun _ => 0) := ⟨Nat.zero_le _, Nat.zero_le _, Nat.zero_le _, Nat.zero_le _, (by decide : (0 : Nat) < 128), fun s hs => absurd hs (Nat.not_lt_zero s), fun g hg => absurd hg (Nat.not_lt_zero g)⟩
  have S : ∀ c, 11 < c → z_S σ c (fun _ => 0) := fun c hc => ⟨h1 _ _ (by omega), h1 _ _ (by omega), h1 _ _ (by omega), h1 _ _ (by omega), h1 _ _ (by omega), fun s hs => absurd hs (Nat.not_lt_zero s), fun g hg => absurd hg (Nat.not_lt_zero g)⟩
  have M : ∀ b, z_M τ b (fun _ => 0) := fun b => ⟨g1 _ _ (by decide), g1 _ _ (by decide), g1 _ _ (by decide), g1 _ _ (by decide), g1 _ _ (by decide), fun s hs => absurd hs (Nat.not_lt_zero s), fun g hg => absurd hg (Nat.not_lt_zero g)⟩
  refine ⟨?_, fun r hr => ⟨⟨0, by decide, h1 _ _ (by decide), g1 _ _ (by decide)⟩, Or.inl ⟨h2 r hr, g2 r hr⟩, fun i hi => ?_⟩, ⟨0, by decide, h1 _ _ (by decide), g1 _ _ (by decide), fun i hi => absurd hi (by omega)⟩, ?_, ?_, fun k hk => ⟨fun _ => 0, ok, S _ (by omega), M _, Or.inr ⟨h1 _ _ (by omega), g1 _ _ (by decide)⟩⟩, ⟨0, by decide, h1 _ _ (by decide), g1 _ _ (by decide), fun i hi => absurd hi (by omega)⟩⟩
  · show σ 0 8 = τ 0 10
    rw [h1 _ _ (by decide), g1 _ _ (by decide)]
  · rw [h1 _ _ (by omega), g1 _ _ (by decide)]
  · rw [h1 _ _ (by decide), g1 _ _ (by decide)]
  · exact ⟨fun _ => 0, 0, 0, fun _ => fun _ => 0, ⟨ok, S 32 (by decide), M 0⟩, Or.inr ⟨h1 _ _ (by decide), g1 _ _ (by decide), rfl, rfl⟩, by decide, by decide, h1 _ _ (by decide), g1 _ _ (by decide), h1 _ _ (by decide), rfl, fun i hi => absurd hi (by omega)⟩
theorem z_op_rd {σ τ : x_S} {x y : Option Int32} (h : z_Rel σ τ) (hr : z_rd x y) : z_op (x_p x (fun r => some (r, σ))) (x_p y (fun r => some (r, τ))) z_Rel := by
  obtain ⟨r, r1, r2⟩ := hr
  rw [r1, r2, z_p, z_p]
  exact ⟨r, σ, τ, rfl, rfl, h⟩
theorem z_Rel.town {σ τ : x_S} (h : z_Rel σ τ) : ∃ v, z_T σ τ v ∧ ((σ 32 0 = 1 ∧ τ 0 1 = 1) ∨ (σ 32 0 = 0 ∧ τ 0 1 = 0 ∧ v 1 = 0 ∧ v 2 = 0)) := by
  obtain ⟨v, n, p, V, ht, hst, -⟩ := h.2.2.2.2.1
  exact ⟨v, ht, hst⟩
