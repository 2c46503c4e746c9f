/-! ===== pure: tell, the system's rows ===== -/
theorem z_off {D k s T : Nat} {nx A : Nat → Nat} (hs : s < 7) (hT : T < 100) (hD : D ≤ 600) (hnx : ∀ t, nx t ≤ 1000000) (hA : ∀ t, A t ≤ 1000000) : ∀ d j f σ, j + d = T + 1 → k ≤ j → d < f → (∀ t, t ≤ T → σ (22 + (s + 1)) t = nI (nx t)) → (∀ t, j ≤ t → t ≤ T → σ (22 + s) t = nI (A t)) → ∃ σ', x_fx (α := Int32 → x_S → Option x_S) (fun _ _ => none) (fun K => fun x5 σ => gX6_offer_3 (nI D) (nI k) (nI s) (nI T) K x5 σ) f (nI j) σ = some σ' ∧ (∀ c, c ≠ 22 + s → σ' c = σ c) ∧ (∀ t, (t < j ∨ T < t) → σ' (22 + s) t = σ (22 + s) t) ∧ ∀ t, j ≤ t → t ≤ T → σ' (22 + s) t = nI (if D + nx (t - k) < A t then D + nx (t - k) else A t) := by
  intro d
  induction d with
  | zero =>
    intro j f σ hj hk hf h1 h2
    cases f with
    | zero => exact absurd hf (by omega)
    | succ f =>
      refine ⟨σ, ?_, fun _ _ => rfl, fun _ _ => rfl, fun t g1 g2 => absurd g2 (by omega)⟩
      show gX6_offer_3 (nI D) (nI k) (nI s) (nI T) _ (nI j) σ = _
      unfold gX6_offer_3
      rw [if_pos (nI_lt (by omega) (by omega))]
  | succ d ih =>
    intro j f σ hj hk hf h1 h2
    cases f with
    | zero => exact absurd hf (by omega)
    | succ f =>
      have n1 := hnx (j - k)
      have n2 := hA j
      have u : ∀ K : Int32 → x_S → Option x_S, gX6_offer_3 (nI D) (nI k) (nI s) (nI T) K (nI j) σ = K (nI (j + 1)) (x_u σ (22 + s) j (nI (if D + nx (j - k) < A j then D + nx (j - k) else A j))) := by
        intro K
        have e : (if nI (D + nx (j - k)) < nI (A j) then nI (D + nx (j - k)) else nI (A j)) = nI (if D + nx (j - k) < A j then D + nx (j - k) else A j) := by
          by_cases c : D + nx (j - k) < A j
          · rw [if_pos ((nI_ltI (by omega) (by omega)).mpr c), if_pos c]
          · rw [if_neg (fun z => c ((nI_ltI (by omega) (by omega)).mp z)), if_neg c]
        unfold gX6_offer_3
        rw [if_neg (nI_nlt (by omega) (by omega)), nI_1, pk_sub hk, nI_1, z_gi (n := 8) (by omega) (by decide), z_gi (n := 8) (by omega) (by decide), z_gi (n := 100) (by omega) (by decide), z_gi (n := 8) (by omega) (by decide), z_gi (n := 100) (by omega) (by decide), z_gi (n := 100) (by omega) (by decide), z_w, z_cl (show s < 65536 by omega), z_cl (show s + 1 < 65536 by omega), z_cl (show j - k < 65536 by omega), z_cl (show j < 65536 by omega), h1 (j - k) (by omega), h2 j (Nat.le_refl _) (by omega), nI_add, e]
      obtain ⟨σ', t1, t2, t3, t4⟩ := ih (j + 1) f (x_u σ (22 + s) j (nI (if D + nx (j - k) < A j then D + nx (j - k) else A j))) (by omega) (by omega) (by omega) (fun t ht => by rw [z_uk (by omega)]; exact h1 t ht) (fun t g1 g2 => by rw [z_ui (by omega)]; exact h2 t (by omega) g2)
      refine ⟨σ', (u _).trans t1, fun c hc => (t2 c hc).trans (z_uk hc), fun t ht => (t3 t (by omega)).trans (z_ui (by omega)), fun t g1 g2 => ?_⟩
      by_cases e : t = j
      · subst e; exact (t3 t (by omega)).trans (z_us _ _ _ _)
      · exact t4 t (by omega) g2
