/-! ===== pure: tell, the reference's table ===== -/
theorem z_e100 (s t : Nat) : (100 : Int32) * nI s + nI t = nI (100 * s + t) := by rw [show (100 : Int32) = nI 100 from rfl, pk_mul, nI_add]
theorem z_lay68 {v : z_V} (hv : z_ok v) (m : Int32) {s t : Nat} {nx : Nat → Nat} (hs : s < v 1) (ht : t < 100) (hle : ∀ t, nx t ≤ 1000000) (K34 K43 : Int32 → x_S → Option x_S) (x2 : Int32) : ∀ d g f a τ, g + d = v 2 → d < f → a ≤ 1000000 → z_M τ 0 v → (∀ t, t < 100 → τ 8 (100 * (s + 1) + t) = nI (nx t)) → τ 8 (100 * s + t) = nI a → ∃ τ', x_fx (α := Int32 → x_S → Option x_S) (fun _ _ => none) (fun K => fun x6 σ => gX8_layCosts_68 K34 K43 m x2 (nI s) (nI t) K x6 σ) f (nI g) τ = K43 (nI (t + 1)) τ' ∧ (∀ c, c ≠ 8 → τ' c = τ c) ∧ (∀ j, j ≠ 100 * s + t → τ' 8 j = τ 8 j) ∧ τ' 8 (100 * s + t) = nI (z_fold (z_cs v m s nx t) g d a) := by
  have h7 := hv.2.1
  have h6 := hv.2.2.1
  intro d
  induction d with
  | zero =>
    intro g f a τ hg hf ha hM hnx h0
    cases f with
    | zero => exact absurd hf (by omega)
    | succ f =>
      have hn : τ 1 2 = nI (v 2) := hM.2.2.1
      refine ⟨τ, ?_, fun _ _ => rfl, fun _ _ => rfl, h0⟩
      show gX8_layCosts_68 K34 K43 m x2 (nI s) (nI t) _ (nI g) τ = _
      unfold gX8_layCosts_68
      rw [z_c2, hn, if_pos (nI_le (by omega) (by omega)), nI_1]
  | succ d ih =>
    intro g f a τ hg hf ha hM hnx h0
    cases f with
    | zero => exact absurd hf (by omega)
    | succ f =>
      have hn : τ 1 2 = nI (v 2) := hM.2.2.1
      have hg2 : g < v 2 := by omega
      have ho := z_onBy hM hv m hg2 hs ht hnx
      have hon : z_on v m s nx t g ≤ 1000600 := by
        have := z_D_le hv hg2 hs
        have := hle (t - v (37 + g))
        unfold z_on
        split <;> omega
      have ec : (nI (100 * s + t)).toNatClampNeg = 100 * s + t := z_cl (by omega)
      have cc : (τ 8 (nI (100 * s + t)).toNatClampNeg ≤ nI (z_on v m s nx t g)) ↔ a ≤ z_on v m s nx t g := by rw [ec, h0]; exact nI_leI (by omega) (by omega)
      have u : ∀ K : Int32 → x_S → Option x_S, gX8_layCosts_68 K34 K43 m x2 (nI s) (nI t) K (nI g) τ = K (nI (g + 1)) (x_u τ 8 (100 * s + t) (nI (z_cs v m s nx t g a))) := by
        intro K
        unfold gX8_layCosts_68 bX8_layCosts_140 z_cs
        rw [z_c2, hn, if_neg (nI_ge hg2 (by omega)), ho, z_p, z_e100, z_gi (n := 800) (by omega) (by decide)]
        by_cases c : a ≤ z_on v m s nx t g
        · rw [if_pos (cc.mpr c), if_neg (by omega), z_gi (n := 800) (by omega) (by decide), z_gi (n := 800) (by omega) (by decide), z_w, ec, h0, nI_1]
        · rw [if_neg (fun z => c (cc.mp z)), if_pos (by omega), z_gi (n := 800) (by omega) (by decide), z_w, ec, nI_1]
      have hcs : z_cs v m s nx t g a ≤ 1000000 := by unfold z_cs; split <;> omega
      obtain ⟨τ', t1, t2, t3, t4⟩ := ih (g + 1) f (z_cs v m s nx t g a) (x_u τ 8 (100 * s + t) (nI (z_cs v m s nx t g a))) (by omega) (by omega) hcs (z_M_c hM ⟨h7, h6⟩ (fun k _ => by rw [z_uk (by decide)])) (fun t2 ht2 => by rw [z_ui (by omega)]; exact hnx t2 ht2) (z_us _ _ _ _)
      exact ⟨τ', (u _).trans t1, fun c hc => (t2 c hc).trans (z_uk hc), fun j hj => (t3 j hj).trans (z_ui hj), t4⟩
