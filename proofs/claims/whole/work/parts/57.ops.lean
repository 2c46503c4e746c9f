/-! ===== pure: the 32 calls ===== -/
theorem z_ops (hcity : ∀ σ τ, z_Rel σ τ → z_op (fX7_city σ) (fX8_city τ) z_Rel) (htell : ∀ σ τ, z_Rel σ τ → ∀ a1 a2 a3 a4 a5, z_op (fX7_tell a1 a2 a3 a4 a5 σ) (fX8_tell a1 a2 a3 a4 a5 τ) z_Rel) : ∀ σ τ, z_Rel σ τ → ∀ k, k < 32 → ∀ a1 a2 a3 a4 a5 a6, z_op (y_S k a1 a2 a3 a4 a5 a6 σ) (y_M k a1 a2 a3 a4 a5 a6 τ) z_Rel := by
  intro σ τ h k hk a1 a2 a3 a4 a5 a6
  obtain ⟨v, ht, hst⟩ := h.town
  rcases (show k = 0 ∨ k = 1 ∨ k = 2 ∨ k = 3 ∨ k = 4 ∨ k = 5 ∨ k = 6 ∨ k = 7 ∨ k = 8 ∨ k = 9 ∨ k = 10 ∨ k = 11 ∨ k = 12 ∨ k = 13 ∨ k = 14 ∨ k = 15 ∨ k = 16 ∨ k = 17 ∨ k = 18 ∨ k = 19 ∨ k = 20 ∨ k = 21 ∨ k = 22 ∨ k = 23 ∨ k = 24 ∨ k = 25 ∨ k = 26 ∨ k = 27 ∨ k = 28 ∨ k = 29 ∨ k = 30 ∨ k = 31 by omega) with rfl | rfl | rfl | rfl | rfl | rfl | rfl | rfl | rfl | rfl | rfl | rfl | rfl | rfl | rfl | rfl | rfl | rfl | rfl | rfl | rfl | rfl | rfl | rfl | rfl | rfl | rfl | rfl | rfl | rfl | rfl | rfl
  · exact o_row h a1 a2 a3
  · exact o_set h a1 a2 a3
  · exact o_copy h a1 a2 a3 a4 a5
  · exact r_drop h a1
  · exact o_feed h a1
  · exact hcity σ τ h
  · exact z_op_rd h (o_fault h)
  · exact o_make h a1 a2
  · exact o_dim h a1 a2
  · exact o_train h a1 a2
  · exact o_know h a1 a2
  · exact o_undo h
  · exact z_op_rd h (o_gesture ht a1 a2)
  · exact z_op_rd h (o_street ht a1 a2)
  · exact z_op_rd h (o_duty ht a1 a2)
  · exact htell σ τ h a1 a2 a3 a4 a5
  · exact z_op_rd h (o_shut ht hst a1)
  · exact z_op_rd h (o_quick ht a1 a2 a3)
  · exact o_thread h a1 a2 a3
  · exact o_inches h a1 a2 a3 a4
  · exact o_sorts h a1 a2 a3 a4
  · exact z_op_rd h (o_saved ht a1)
  · exact z_op_rd h (o_worst ht a1 a2)
  · exact z_op_rd h (o_tremble ht a1 a2 a3 a4 a5 a6)
  · exact o_image h a1
  · exact o_restore h a1
  · exact z_op_rd h (o_kind ht a1)
  · exact o_as h a1 a2
  · exact o_ask h a1 a2
  · exact z_op_rd h (o_trace h a1)
  · exact z_op_rd h (o_count h a1)
  · exact z_op_rd h (o_status h)
