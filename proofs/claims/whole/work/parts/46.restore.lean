/-- image -/
theorem o_image {σ τ : x_S} (h : z_Rel σ τ) (a1 : Int32) : z_op (fX7_image a1 σ) (fX8_image a1 τ) z_Rel := by
  obtain ⟨hs, hr, hta, hf, hto, him, htr⟩ := id h
  obtain ⟨v, n, p, V, ht, hst, -⟩ := hto
  have h7 := ht.1.2.1
  have h6 := ht.1.2.2.1
  unfold z_op fX7_image fX8_image
  rw [z_isWithin, show (0 : Int64) = (0 : Int32).toInt64 from rfl, show (1 : Int64) = (1 : Int32).toInt64 from rfl, z_in64, z_p, z_p]
  by_cases q : z_W a1 0 1 = 0
  · rw [if_pos q, if_pos q]; exact ⟨_, _, _, rfl, rfl, h⟩
  · rw [if_neg q, if_neg q]
    obtain ⟨k, hk, rfl⟩ := z_W3 (n := 1) (by decide) q
    rcases hst with ⟨g1, g2⟩ | ⟨g1, g2, -⟩
    · rw [if_neg (by rw [g1]; decide), if_neg (by rw [g2]; decide)]
      obtain ⟨σ', s1, s2, s3, s4⟩ := z_become (σ := σ) (c0 := 48 + 8 * k) (c1 := 32) (by omega) ht.2.1 (Or.inr g1) h7 h6
      obtain ⟨τ', t1, t2, t3, t4⟩ := z_copyTown (τ := τ) (a := 0) (b := 1225 + 49 * k) (by omega) (by omega) (by omega)
      have t1 : fX8_copyTown 0 (nI (1225 + 49 * k)) τ = some τ' := t1
      have ek : (nI k).toNatClampNeg = k := z_cl (by omega)
      have s1 : fX2_become (48 + 8 * (nI k).toNatClampNeg) 32 σ = some σ' := by rw [ek]; exact s1
      have u2 : ∀ j, j ≠ k → x_u τ' 2 k 1 2 j = τ 2 j := fun j hj => (z_ui hj).trans (congrFun (t2 2 (by decide)) j)
      have u0 : x_u τ' 2 k 1 0 = τ 0 := (z_uk (by decide)).trans (t2 0 (by decide))
      have u1 : ∀ j, (j < 1225 + 49 * k ∨ 1225 + 49 * k + 49 ≤ j) → x_u τ' 2 k 1 1 j = τ 1 j := fun j hj => (congrFun (z_uk (by decide)) j).trans (t3 j hj)
      have u : ∀ c, c ≠ 1 → c ≠ 2 → x_u τ' 2 k 1 c = τ c := fun c h1 h2 => (z_uk h2).trans (t2 c h1)
      rw [z_gi (n := 2) (by omega) (by decide), s1, z_v, show (1225 : Int32) + 49 * nI k = nI (1225 + 49 * k) by rw [show (1225 : Int32) = nI 1225 from rfl, show (49 : Int32) = nI 49 from rfl, pk_mul, nI_add], t1, z_v, z_gi (n := 2) (by omega) (by decide), z_w, ek]
      refine ⟨_, _, _, rfl, rfl, ?_, z_rows_c hr (fun c c1 c2 => s2 c (by omega)) (u 3 (by decide) (by decide)) (u 4 (by decide) (by decide)) (u 5 (by decide) (by decide)), z_tape_c hta (by rw [s2 13 (by omega)]) (s2 14 (by omega)) (by rw [u0]) (u 6 (by decide) (by decide)), ?_, z_town_c h.2.2.2.2.1 (fun c c1 c2 => s2 c (by omega)) (fun c c1 c2 => s2 c (by omega)) (fun j hj => u1 j (by omega)) (by rw [u0]) (by rw [u0]), fun j hj => ?_, z_tr_c htr (by rw [s2 30 (by omega)]) (s2 31 (by omega)) (by rw [u0]) (u 7 (by decide) (by decide))⟩
      · show σ' 0 8 = _
        rw [s2 0 (by omega), u0]; exact hs
      · rw [s2 13 (by omega), u0]; exact hf
      · by_cases e : j = k
        · subst e
          refine ⟨v, ht.1, s3, z_M_c ht.2.2 ⟨h7, h6⟩ (fun t ht2 => ?_), Or.inl ⟨s4.trans g1, z_us _ _ _ _, by rw [u0]; exact g2⟩⟩
          rw [z_uk (by decide)]; exact t4 t ht2
        · obtain ⟨v', w1, w2, w3, w4⟩ := him j hj
          refine ⟨v', w1, z_S_c w2 (fun c c1 c2 => s2 c (by omega)), z_M_c w3 ⟨w1.2.1, w1.2.2.1⟩ (fun t ht2 => u1 _ (by omega)), ?_⟩
          rw [s2 _ (by omega), u2 j e, u0]; exact w4
    · rw [if_pos g1, if_pos g2]; exact ⟨_, _, _, rfl, rfl, h⟩
/-- restore -/
theorem o_restore {σ τ : x_S} (h : z_Rel σ τ) (a1 : Int32) : z_op (fX7_restore a1 σ) (fX8_restore a1 τ) z_Rel := by
  obtain ⟨v, n, p, V, ht, hst, hn, hp, k1, k2, k3, hV, hpast⟩ := h.2.2.2.2.1
  unfold z_op fX7_restore fX8_restore
  rw [z_isWithin, show (0 : Int64) = (0 : Int32).toInt64 from rfl, show (1 : Int64) = (1 : Int32).toInt64 from rfl, z_in64, z_p, z_p]
  by_cases q : z_W a1 0 1 = 0
  · rw [if_pos q, if_pos q]; exact ⟨_, _, _, rfl, rfl, h⟩
  · rw [if_neg q, if_neg q]
    obtain ⟨k, hk, rfl⟩ := z_W3 (n := 1) (by decide) q
    have ek : (nI k).toNatClampNeg = k := z_cl (by omega)
    obtain ⟨v', w1, w2, w3, w4⟩ := h.2.2.2.2.2.1 k (by omega)
    rw [z_gi (n := 2) (by omega) (by decide), z_gi (n := 2) (by omega) (by decide)]
    rcases w4 with ⟨g1, g2, g3⟩ | ⟨g1, g2⟩
    · rw [if_neg (by rw [ek, g1]; decide), if_neg (by rw [ek, g2]; decide), z_gi (n := 2) (by omega) (by decide), ek]
      obtain ⟨σ', s1, s2, s3, s4⟩ := z_become (σ := σ) (c0 := 32) (c1 := 48 + 8 * k) (by omega) w2 (Or.inr g1) w1.2.1 w1.2.2.1
      obtain ⟨τ', t1, t2, t3, t4⟩ := z_copyTown (τ := τ) (a := 1225 + 49 * k) (b := 0) (by omega) (by omega) (by omega)
      have t1 : fX8_copyTown (nI (1225 + 49 * k)) 0 τ = some τ' := t1
      unfold fX0_forgetAll
      rw [s1, z_v, z_w, z_v, show (1225 : Int32) + 49 * nI k = nI (1225 + 49 * k) by rw [show (1225 : Int32) = nI 1225 from rfl, show (49 : Int32) = nI 49 from rfl, pk_mul, nI_add], t1, z_v, z_w]
      refine ⟨_, _, _, rfl, rfl, z_Rel_town h ?_ (fun c h1 h2 => (z_uk (by omega)).trans (s2 c (by omega))) (fun c h1 h2 => (z_uk h1).trans (t2 c h2)) (fun j h1 h2 => (z_ui h2).trans (congrFun (t2 0 (by decide)) j)) (fun j hj => (congrFun (z_uk (by decide)) j).trans (t3 j (by omega))) (fun z => (z_ui (by decide)).trans ((congrFun (t2 0 (by decide)) 1).trans z))⟩
      refine ⟨v', 0, p, fun _ => v', ⟨w1, z_S_c s3 (fun c c1 c2 => z_uk (by omega)), z_M_c w3 ⟨w1.2.1, w1.2.2.1⟩ (fun t ht2 => ?_)⟩, Or.inl ⟨?_, ?_⟩, by omega, hp, z_us _ _ _ _, z_us _ _ _ _, ?_, rfl, fun i hi => absurd hi (by omega)⟩
      · rw [z_uk (by decide)]; exact t4 t ht2
      · rw [z_uk (by decide)]; exact s4.trans g1
      · rw [z_ui (by decide), t2 0 (by decide)]; exact g3
      · rw [z_ui (by decide), s2 16 (by omega)]; exact k3
    · rw [if_pos (by rw [ek, g1]), if_pos (by rw [ek, g2]), z_gi (n := 2) (by omega) (by decide)]; exact ⟨_, _, _, rfl, rfl, h⟩
