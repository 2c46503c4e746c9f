/-! ===== pure: every call ===== -/
theorem z_all : ∀ σ τ, z_Rel σ τ → ∀ k, k < 32 → ∀ a1 a2 a3 a4 a5 a6, z_op (y_S k a1 a2 a3 a4 a5 a6 σ) (y_M k a1 a2 a3 a4 a5 a6 τ) z_Rel := z_ops (fun _ _ h => o_city h) (fun _ _ h a1 a2 a3 a4 a5 => o_tell h a1 a2 a3 a4 a5)
