theorem z_take {σ : x_S} {v : z_V} {n p d w x : Nat} (hS : z_S σ 32 v) (hv : z_ok v) (hn0 : 1 ≤ n) (hn : n ≤ 24) (hp : p < 24) (h3 : σ 16 3 = nI p) (h4 : σ 16 4 = nI n) (d1 : σ 17 ((p + 23) % 24) = nI d) (d2 : σ 18 ((p + 23) % 24) = nI w) (d3 : σ 19 ((p + 23) % 24) = nI x) (ha : z_actok d w x v) : ∃ σ', fX0_takeBack 32 σ = some σ' ∧ (∀ c, c ≠ 16 → (c < 32 ∨ 40 ≤ c) → σ' c = σ c) ∧ σ' 16 3 = nI ((p + 23) % 24) ∧ σ' 16 4 = nI (n - 1) ∧ σ' 32 0 = σ 32 0 ∧ z_S σ' 32 (z_undo d w x v) := by
  have h7 := hv.2.1
  have h6 := hv.2.2.1
  have hp2 : (p + 23) % 24 < 24 := Nat.mod_lt _ (by decide)
  have e1 : ((nI p + 24) - 1) - ((nI p + 24) - 1) / 24 * 24 = nI ((p + 23) % 24) := by
    have : ∀ p, p < 24 → ((nI p + 24) - 1) - ((nI p + 24) - 1) / 24 * 24 = nI ((p + 23) % 24) := by decide +kernel
    exact this p hp
  have e2 : nI n - 1 = nI (n - 1) := pk_sub (a := n) (b := 1) hn0
  unfold fX0_takeBack
  rw [h3, e1, z_w]
  generalize q1 : x_u σ 16 3 (nI ((p + 23) % 24)) = t1
  have a1 : ∀ c, c ≠ 16 → t1 c = σ c := fun c hc => by rw [← q1]; exact z_uk hc
  have a2 : t1 16 3 = nI ((p + 23) % 24) := by rw [← q1]; exact z_us _ _ _ _
  have a3 : t1 16 4 = nI n := by rw [← q1, z_ui (by decide)]; exact h4
  rw [a3, e2, z_w]
  generalize q2 : x_u t1 16 4 (nI (n - 1)) = t2
  have b1 : ∀ c, c ≠ 16 → t2 c = σ c := fun c hc => by rw [← q2]; exact (z_uk hc).trans (a1 c hc)
  have b2 : t2 16 3 = nI ((p + 23) % 24) := by rw [← q2, z_ui (by decide)]; exact a2
  have b3 : t2 16 4 = nI (n - 1) := by rw [← q2]; exact z_us _ _ _ _
  have bS : z_S t2 32 v := z_S_c hS (fun k g1 g2 => b1 k (by omega))
  have b0 : t2 32 0 = σ 32 0 := congrFun (b1 32 (by decide)) 0
  generalize hP : (p + 23) % 24 = P at hp2 d1 d2 d3 b2
  rw [b2, z_gi hp2 (by decide), z_gi hp2 (by decide), z_gi hp2 (by decide), z_cl (by omega), b1 17 (by decide), b1 18 (by decide), b1 19 (by decide), d1, d2, d3]
  rcases ha with ⟨rfl, hw, g1, g2⟩ | ⟨rfl, hw, g1⟩ | ⟨rfl, hw, g1, g2⟩ | ⟨rfl, hw, g1⟩
  · have e39 : t2 39 w = nI (v (43 + w)) := (bS.2.2.2.2.2.2 w hw).2.2.2.2
    have s1 : nI (v (43 + w)) - 1 = nI (v (43 + w) - 1) := pk_sub (a := v (43 + w)) (b := 1) g1
    have s2 : nI (v 3) - nI x = nI (v 3 - x) := pk_sub g2
    have w2 : x_u t2 39 w (nI (v (43 + w) - 1)) 32 2 = nI (v 3) := (congrFun (z_uk (by decide)) 2).trans bS.2.2.2.1
    have f := z_S_paid (z_S_made bS h7 h6 (show w < 6 by omega) (v (43 + w) - 1)) (by rw [z_setn (by omega)]; exact h7) (by rw [z_setn (by omega)]; exact h6) (v 3 - x)
    rw [if_pos (show (nI 0 : Int32) = 0 from rfl), z_gi (n := 6) (by omega) (by decide), z_gi (n := 6) (by omega) (by decide), z_w, z_w, z_cl (by omega), e39, s1, w2, s2]
    refine ⟨_, rfl, fun c h1 h2 => ?_, ?_, ?_, ?_, ?_⟩
    · rw [z_uk (by omega), z_uk (by omega)]; exact b1 c h1
    · rw [z_uk (by decide), z_uk (by decide)]; exact b2
    · rw [z_uk (by decide), z_uk (by decide)]; exact b3
    · rw [z_ui (by decide), z_uk (by decide)]; exact b0
    · rw [z_undo0, z_set_comm (by omega)]; exact f
  · have f := z_S_dim bS h7 h6 (show w < 7 by omega) x
    rw [if_neg (show ¬ (nI 1 : Int32) = 0 by decide), if_pos (show (nI 1 : Int32) = 1 from rfl), z_gi (n := 7) (by omega) (by decide), z_w, z_cl (by omega)]
    refine ⟨_, rfl, fun c h1 h2 => ?_, ?_, ?_, ?_, ?_⟩
    · rw [z_uk (by omega)]; exact b1 c h1
    · rw [z_uk (by decide)]; exact b2
    · rw [z_uk (by decide)]; exact b3
    · rw [z_uk (by decide)]; exact b0
    · rw [z_undo1]; exact f
  · have e36 : t2 36 w = nI (v (25 + w)) := (bS.2.2.2.2.2.2 w hw).2.1
    have f := z_S_inch bS h7 h6 (show w < 6 by omega) (v (25 + w) + x)
    rw [if_neg (show ¬ (nI 2 : Int32) = 0 by decide), if_neg (show ¬ (nI 2 : Int32) = 1 by decide), if_pos (show (nI 2 : Int32) = 2 from rfl), z_gi (n := 6) (by omega) (by decide), z_gi (n := 6) (by omega) (by decide), z_w, z_cl (by omega), e36, nI_add]
    refine ⟨_, rfl, fun c h1 h2 => ?_, ?_, ?_, ?_, ?_⟩
    · rw [z_uk (by omega)]; exact b1 c h1
    · rw [z_uk (by decide)]; exact b2
    · rw [z_uk (by decide)]; exact b3
    · rw [z_uk (by decide)]; exact b0
    · rw [z_undo2]; exact f
  · have e4 : t2 32 4 = nI (v 4) := bS.2.2.2.2.1
    have x1 := (z_xor (v 4) hv.2.2.2.2.1 w (by omega)).1
    have f := z_S_known bS h7 h6 (v 4 ^^^ (1 <<< w))
    unfold fX2_turnKnown
    rw [if_neg (show ¬ (nI 3 : Int32) = 0 by decide), if_neg (show ¬ (nI 3 : Int32) = 1 by decide), if_neg (show ¬ (nI 3 : Int32) = 2 by decide), if_pos (show (nI 3 : Int32) = 3 from rfl), e4, x1, z_w, z_v]
    refine ⟨_, rfl, fun c h1 h2 => ?_, ?_, ?_, ?_, ?_⟩
    · rw [z_uk (by omega)]; exact b1 c h1
    · rw [z_uk (by decide)]; exact b2
    · rw [z_uk (by decide)]; exact b3
    · rw [z_ui (by decide)]; exact b0
    · rw [z_undo3]; exact f
/-- undo -/
theorem o_undo {σ τ : x_S} (h : z_Rel σ τ) : z_op (fX7_undo σ) (fX8_undo τ) z_Rel := by
  obtain ⟨v, n, p, V, ht, hst, hn, hp, k1, k2, k3, hV, hpast⟩ := h.2.2.2.2.1
  have h7 := ht.1.2.1
  have h6 := ht.1.2.2.1
  unfold z_op fX7_undo fX8_undo
  by_cases c : n = 0
  · subst c
    rw [if_pos (by rw [k1]; rfl), if_pos (by rw [k2]; rfl)]; exact ⟨_, _, _, rfl, rfl, h⟩
  · have cS : ¬ σ 16 4 = 0 := by rw [k1]; exact fun z => c ((z_eqL (y := (0 : Int32)) 0 rfl (by omega) (by decide)).mp z)
    have cM : ¬ τ 0 2 = 0 := by rw [k2]; exact fun z => c ((z_eqL (y := (0 : Int32)) 0 rfl (by omega) (by decide)).mp z)
    obtain ⟨d, w, x, d1, d2, d3, ha, hu, hM⟩ := hpast 0 (by omega)
    rw [hV] at ha hu
    rw [Nat.sub_zero] at d1 d2 d3 hM
    obtain ⟨σ', s1, s2, s3, s4, s5, s6⟩ := z_take ht.2.1 ht.1 (by omega) hn hp k3 k1 d1 d2 d3 ha
    obtain ⟨τ', t1, t2, t3, t4⟩ := z_copyTown (τ := x_u τ 0 2 (nI (n - 1))) (a := 49 + 49 * (n - 1)) (b := 0) (by omega) (by omega) (by omega)
    have e2 : nI n - 1 = nI (n - 1) := pk_sub (a := n) (b := 1) (by omega)
    have t1 : fX8_copyTown (nI (49 + 49 * (n - 1))) 0 (x_u τ 0 2 (nI (n - 1))) = some τ' := t1
    have u0 : τ' 0 = x_u τ 0 2 (nI (n - 1)) 0 := t2 0 (by decide)
    have u1 : x_u τ 0 2 (nI (n - 1)) 1 = τ 1 := z_uk (by decide)
    rw [u1] at t3 t4
    have sg := z_past_sg hpast 1 (by omega)
    rw [hV] at sg
    rw [if_neg cS, if_neg cM, s1, z_v, k2, e2, z_w, z_us, show (49 : Int32) + 49 * nI (n - 1) = nI (49 + 49 * (n - 1)) by rw [show (49 : Int32) = nI 49 from rfl, pk_mul, nI_add], t1, z_v]
    refine ⟨nI (n - 1), σ', τ', by rw [s4], by rw [u0, z_us], z_Rel_town h ?_ (fun k g1 g2 => s2 k (by omega) g2) (fun k g1 g2 => (t2 k g2).trans (z_uk g1)) (fun j g1 g2 => (congrFun u0 j).trans (z_ui g2)) (fun j hj => t3 j (by omega)) (fun z => (congrFun u0 1).trans ((z_ui (by decide)).trans z))⟩
    refine ⟨V 1, n - 1, (p + 23) % 24, fun i => V (i + 1), ⟨by rw [hu]; exact z_undo_ok ht.1 ha, by rw [hu]; exact s6, z_M_c hM (by omega) (fun k hk => by rw [t4 k hk])⟩, ?_, by omega, by omega, s4, by rw [u0, z_us], s3, rfl, ?_⟩
    · rw [s5, u0, z_ui (by decide), sg.1, sg.2]; exact hst
    · intro i hi
      obtain ⟨d', w', x', g1, g2, g3, g4, g5, g6⟩ := hpast (i + 1) (by omega)
      have ep : ((p + 23) % 24 + 23 - i) % 24 = (p + 23 - (i + 1)) % 24 := by omega
      have sg2 := z_past_sg hpast (i + 1 + 1) (by omega)
      rw [hV] at sg2
      refine ⟨d', w', x', ?_, ?_, ?_, g4, g5, ?_⟩
      · rw [ep, s2 17 (by omega) (by omega)]; exact g1
      · rw [ep, s2 18 (by omega) (by omega)]; exact g2
      · rw [ep, s2 19 (by omega) (by omega)]; exact g3
      · refine z_M_c (v := V (i + 1 + 1)) g6 ⟨by omega, by omega⟩ (fun k hk => ?_)
        rw [t3 _ (by omega)]
        congr 1
        omega
