/-! ===== pure: make, dim, train, know, undo ===== -/
/-- the town alone has changed -/
theorem z_Rel_town {σ τ σ' τ' : x_S} (h : z_Rel σ τ) (ht : z_town σ' τ') (h1 : ∀ k, (k < 16 ∨ 20 ≤ k) → (k < 32 ∨ 40 ≤ k) → σ' k = σ k) (h2 : ∀ k, k ≠ 0 → k ≠ 1 → τ' k = τ k) (h3 : ∀ j, j ≠ 1 → j ≠ 2 → τ' 0 j = τ 0 j) (h4 : ∀ j, 1225 ≤ j → τ' 1 j = τ 1 j) (h5 : τ 0 1 = 1 → τ' 0 1 = 1) : z_Rel σ' τ' := by
  obtain ⟨hs, hr, hta, hf, -, him, htr⟩ := h
  refine ⟨?_, z_rows_c hr (fun k g1 g2 => h1 k (by omega) (by omega)) (h2 3 (by decide) (by decide)) (h2 4 (by decide) (by decide)) (h2 5 (by decide) (by decide)), z_tape_c hta (by rw [h1 13 (by omega) (by omega)]) (h1 14 (by omega) (by omega)) (h3 8 (by decide) (by decide)) (h2 6 (by decide) (by decide)), ?_, ht, z_ims_c him (fun k g1 g2 => h1 k (by omega) (by omega)) (fun k hk => h4 _ (by omega)) (h2 2 (by decide) (by decide)) h5, z_tr_c htr (by rw [h1 30 (by omega) (by omega)]) (h1 31 (by omega) (by omega)) (h3 12 (by decide) (by decide)) (h2 7 (by decide) (by decide))⟩
  · show σ' 0 8 = τ' 0 10
    rw [h1 0 (by omega) (by omega), h3 10 (by decide) (by decide)]; exact hs
  · rw [h1 13 (by omega) (by omega), h3 9 (by decide) (by decide)]; exact hf
/-- an act: v' from v, to be undone by d w x -/
theorem z_act {σ σ1 τ : x_S} (h : z_Rel σ τ) {v v' : z_V} {n p : Nat} {V : Nat → z_V} (ht : z_T σ τ v) (hst : (σ 32 0 = 1 ∧ τ 0 1 = 1) ∨ (σ 32 0 = 0 ∧ τ 0 1 = 0 ∧ v 1 = 0 ∧ v 2 = 0)) (hn : n ≤ 24) (hp : p < 24) (k1 : σ 16 4 = nI n) (k2 : τ 0 2 = nI n) (k3 : σ 16 3 = nI p) (hV : V 0 = v) (hpast : z_past σ τ n p V)
    {d w x : Nat} (ha : z_actok d w x v') (hu : z_undo d w x v' = v) (hv' : z_ok v') (hσ : ∀ c, (c < 32 ∨ 40 ≤ c) → σ1 c = σ c) (h0 : σ1 32 0 = σ 32 0) (hS : z_S σ1 32 v') :
    ∃ σ2, fX0_keep (nI d) (nI w) (nI x) σ1 = some σ2 ∧ (∀ c, (c < 16 ∨ 20 ≤ c) → σ2 c = σ1 c) ∧ ∃ τ1, fX8_keepPast τ = some τ1 ∧ (∀ j, j < 49 → τ1 1 j = τ 1 j) ∧ ∀ τ2, (∀ c, c ≠ 1 → τ2 c = τ1 c) → (∀ j, 49 ≤ j → τ2 1 j = τ1 1 j) → z_M τ2 0 v' → z_Rel σ2 τ2 := by
  obtain ⟨σ2, s1, s2, s3, s4, s5, s6, s7, s8⟩ := z_keep (σ := σ1) hn hp (by rw [hσ 16 (by omega)]; exact k3) (by rw [hσ 16 (by omega)]; exact k1) (nI d) (nI w) (nI x)
  obtain ⟨τ1, t1, t2, t3, t4, t5, t6, t7⟩ := z_keepPast hn k2
  refine ⟨σ2, s1, s2, τ1, t1, fun j hj => t5 j (by omega), fun τ2 u1 u2 hM => ?_⟩
  have hsg := z_undo_sg ha
  rw [hu] at hsg
  refine z_Rel_town h ?_ (fun k g1 g2 => (s2 k g1).trans (hσ k g2)) (fun k g1 g2 => (u1 k g2).trans (t2 k g1 g2)) (fun j g1 g2 => (congrFun (u1 0 (by decide)) j).trans (t3 j g2)) (fun j hj => (u2 j (by omega)).trans (t5 j (by omega))) (fun z => (congrFun (u1 0 (by decide)) 1).trans ((t3 1 (by decide)).trans z))
  refine ⟨v', min (n + 1) 24, (p + 1) % 24, fun i => if i = 0 then v' else V (i - 1), ⟨hv', z_S_c hS (fun k g1 g2 => s2 k (by omega)), hM⟩, ?_, by omega, by omega, s4, (congrFun (u1 0 (by decide)) 2).trans t4, s3, if_pos rfl, ?_⟩
  · rw [s2 32 (by omega), h0, u1 0 (by decide), t3 1 (by decide)]
    rcases hst with g | ⟨g1, g2, g3, g4⟩
    · exact Or.inl g
    · exact Or.inr ⟨g1, g2, hsg.1 ▸ g3, hsg.2 ▸ g4⟩
  · intro i hi
    have hv12 : v 1 ≤ 7 ∧ v 2 ≤ 6 := ⟨ht.1.2.1, ht.1.2.2.1⟩
    by_cases i0 : i = 0
    · subst i0
      have ep : ((p + 1) % 24 + 23 - 0) % 24 = p := by omega
      rw [ep]
      refine ⟨d, w, x, s5, s6, s7, ha, ?_, ?_⟩
      · show V 0 = z_undo d w x v'
        rw [hu]; exact hV
      · show z_M τ2 _ (V 0)
        rw [hV]
        refine z_M_c ht.2.2 hv12 (fun k hk => ?_)
        have e : min (n + 1) 24 - 1 - 0 = min n 23 := by omega
        rw [e, u2 _ (by omega), Nat.zero_add]
        exact t6 k hk
    · have hi1 : i - 1 < n := by omega
      obtain ⟨d', w', x', a1, a2, a3, a4, a5, a6⟩ := hpast (i - 1) hi1
      have ep : ((p + 1) % 24 + 23 - i) % 24 = (p + 23 - (i - 1)) % 24 := by omega
      have np : (p + 23 - (i - 1)) % 24 ≠ p := by omega
      obtain ⟨b1, b2, b3⟩ := s8 _ np
      have ei : i - 1 + 1 = i := by omega
      rw [ei] at a5 a6
      refine ⟨d', w', x', ?_, ?_, ?_, ?_, ?_, ?_⟩
      · rw [ep, b1, hσ 17 (by omega)]; exact a1
      · rw [ep, b2, hσ 18 (by omega)]; exact a2
      · rw [ep, b3, hσ 19 (by omega)]; exact a3
      · show z_actok d' w' x' (if i = 0 then v' else V (i - 1))
        rw [if_neg i0]; exact a4
      · show (if i + 1 = 0 then v' else V (i + 1 - 1)) = z_undo d' w' x' (if i = 0 then v' else V (i - 1))
        rw [if_neg i0, if_neg (by omega), Nat.add_sub_cancel]; exact a5
      · show z_M τ2 _ (if i + 1 = 0 then v' else V (i + 1 - 1))
        rw [if_neg (by omega), Nat.add_sub_cancel]
        have sg := z_past_sg hpast i (by omega)
        rw [hV] at sg
        refine z_M_c a6 (by omega) (fun k hk => ?_)
        rw [u2 _ (by omega)]
        by_cases q : n = 24
        · subst q
          have m : min 24 23 = 23 := rfl
          have := t7 (49 * (min (24 + 1) 24 - 1 - i) + k) (by omega)
          rw [if_pos rfl] at this
          rw [Nat.add_assoc, this]
          congr 1
          omega
        · have := t7 (49 * (min (n + 1) 24 - 1 - i) + k) (by omega)
          rw [if_neg q] at this
          rw [Nat.add_assoc, this]
          congr 1
          omega
