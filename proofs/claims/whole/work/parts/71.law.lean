/-! ===== pure: city, the law ===== -/
/-- no fault yet, the draft is w -/
def w_L (σ0 τ0 : x_S) (n p : Nat) (w : z_V) (σ τ : x_S) : Prop := w_lv σ0 τ0 n p σ τ ∧ w_fr σ0 τ0 σ τ ∧ z_S σ 40 w ∧ z_M τ 1323 w ∧ σ 40 0 = 1 ∧ z_ok w ∧ ∀ g, g < 6 → τ 1 (1366 + g) = 0
theorem w_lv_c {σ0 τ0 σ τ σ' τ' : x_S} {n p : Nat} (h : w_lv σ0 τ0 n p σ τ) (h1 : σ' 13 = σ 13) (h2 : σ' 14 = σ 14) (h3 : τ' 0 = τ 0) (h4 : τ' 6 = τ 6) : w_lv σ0 τ0 n p σ' τ' := by
  obtain ⟨a, b, c, d, e, f, g⟩ := h
  exact ⟨w_tp_c a (by rw [h1]) h2 (by rw [h3]) h4, b, by rw [h1]; exact c, by rw [h1]; exact d, by rw [h3]; exact e, by rw [h1]; exact f, fun j j1 j2 j3 => by rw [h3]; exact g j j1 j2 j3⟩
theorem z_uu (σ : x_S) (k i : Nat) (v : Int32) : x_u σ k i v k = upd (σ k) i v := by rw [z_u, if_pos rfl]
theorem z_c1323 : (1323 : Int32).toNatClampNeg = 1323 := rfl
theorem z_c1324 : (1324 : Int32).toNatClampNeg = 1324 := rfl
theorem z_c1325 : (1325 : Int32).toNatClampNeg = 1325 := rfl
theorem w_law {σ0 τ0 σ τ : x_S} {n : Nat} (h : w_lv σ0 τ0 n 0 σ τ) (hf : w_fr σ0 τ0 σ τ) (h0 : ∀ k, k < 49 → τ 1 (1323 + k) = 0) : ∃ σ' r τ', fX4_readLaw 40 σ = some σ' ∧ fX8_readsLaw τ = some (r, τ') ∧ ((r = 1 ∧ ∃ p w, w 1 = 0 ∧ w 2 = 0 ∧ w_L σ0 τ0 n p w σ' τ') ∨ (r = 0 ∧ w_D σ0 τ0 τ' 0 0 σ')) := by
  unfold fX4_readLaw fX8_readsLaw
  obtain ⟨σ1, r1, τ1, s1, t1, c1, d1, hh1⟩ := w_sign h (a := 100) (by decide)
  have f1 : w_fr σ0 τ0 σ1 τ1 := w_fr_d (w_fr_c hf (fun c hc _ => c1 c hc)) (fun c hc _ => d1 c hc) (fun j _ => by rw [d1 1 (by decide)])
  rw [t1, z_b]
  have deadB : ∀ τ9 x σ9, w_D0 σ0 τ0 τ9 σ9 → ∃ t, x_v (fX2_begin 40 x σ9) (fun σ7 => x_v (fX4_readSign 59 σ7) (fun σ9 => some σ9)) = some t ∧ w_D σ0 τ0 τ9 0 0 t := by
    intro τ9 x σ9 h9
    obtain ⟨σ', b1, b2, b3, b4, b5, b6, b7, b8⟩ := w_begin x σ9
    have : w_D σ0 τ0 τ9 0 0 σ' := ⟨w_ft_c h9.1 (fun j _ => by rw [b2 13 (by decide)]), w_fr_c h9.2 (fun c _ hc => b2 c (by omega)), b6, b8⟩
    rw [b1, z_v]
    refine w_ov (w_Dsign this 59) (fun s hs => ⟨s, rfl, hs⟩)
  rcases hh1 with ⟨rfl, hp1, l1⟩ | ⟨rfl, l1⟩
  · obtain ⟨x, σ2, r2, τ2, s2, t2, c2, d2, hh2⟩ := w_number l1 (lo := 1) (hi := 9) (by decide) (by decide)
    have s2 : fX4_readNumber 1 9 σ1 = some (x, σ2) := s2
    have t2 : fX8_readsNumber 1 9 τ1 = some (r2, τ2) := t2
    have f2 : w_fr σ0 τ0 σ2 τ2 := w_fr_d (w_fr_c f1 (fun c hc _ => c2 c hc)) (fun c hc _ => d2 c hc) (fun j _ => by rw [d2 1 (by decide)])
    rw [s1, z_v, s2, z_b, if_neg z_10, t2, z_b]
    rcases hh2 with ⟨rfl, k, p2, k1, k9, rfl, e15, hp2, l2⟩ | ⟨rfl, l2⟩
    · obtain ⟨σ3, b1, b2, b3, b4, b5, b6, b7, b8⟩ := w_begin (nI k) σ2
      rw [b1, z_v, if_neg z_10, z_g (show x_in (1323 : Int32) 1372 by decide), z_w, z_c1323, e15]
      have l3 : w_lv σ0 τ0 n p2 σ3 (x_u τ2 1 1323 (nI k)) := w_lv_c l2 (b2 13 (by decide)) (b2 14 (by decide)) (z_uk (by decide)) (z_uk (by decide))
      have f3 : w_fr σ0 τ0 σ3 (x_u τ2 1 1323 (nI k)) := w_fr_d (w_fr_c f2 (fun c _ hc => b2 c (by omega))) (fun c _ hc => z_uk hc) (fun j hj => z_ui (by omega))
      obtain ⟨σ4, r4, τ4, s4, t4, c4, d4, hh4⟩ := w_sign l3 (a := 59) (by decide)
      have f4 : w_fr σ0 τ0 σ4 τ4 := w_fr_d (w_fr_c f3 (fun c hc _ => c4 c hc)) (fun c hc _ => d4 c hc) (fun j _ => by rw [d4 1 (by decide)])
      rw [s4, z_v, t4, z_b]
      have e40 := c4 40 (by decide)
      have e1 : ∀ j, τ4 1 j = if j = 1323 then nI k else τ 1 j := by
        intro j
        rw [d4 1 (by decide), z_uu, z_upd, d2 1 (by decide), d1 1 (by decide)]
      rcases hh4 with ⟨rfl, hp4, l4⟩ | ⟨rfl, l4⟩
      · refine ⟨σ4, 1, τ4, rfl, z_g (by decide) _, Or.inl ⟨rfl, p2 + 1, fun i => if i = 0 then k else 0, rfl, rfl, l4, f4, ⟨?_, ?_, ?_, ?_, ?_, fun s hs => absurd hs (Nat.not_lt_zero _), fun g hg => absurd hg (Nat.not_lt_zero _)⟩, ⟨?_, ?_, ?_, ?_, ?_, fun s hs => absurd hs (Nat.not_lt_zero _), fun g hg => absurd hg (Nat.not_lt_zero _)⟩, ?_, ⟨k9, Nat.zero_le _, Nat.zero_le _, Nat.zero_le _, (show (0 : Nat) < 128 by decide), fun s hs => absurd hs (Nat.not_lt_zero _), fun g hg => absurd hg (Nat.not_lt_zero _)⟩, fun g hg => ?_⟩⟩
        · rw [e40]; exact b4
        · rw [e40]; exact b6
        · rw [e40]; exact b8
        · rw [e40]; exact b5
        · rw [e40]; exact b7
        · rw [e1, if_pos rfl]; rfl
        · rw [e1, if_neg (by decide)]; exact h0 1 (by decide)
        · rw [e1, if_neg (by decide)]; exact h0 2 (by decide)
        · rw [e1, if_neg (by decide)]; exact h0 3 (by decide)
        · rw [e1, if_neg (by decide)]; exact h0 4 (by decide)
        · rw [e40]; exact b3
        · rw [e1, if_neg (by omega)]
          have := h0 (43 + g) (by omega)
          rwa [show 1323 + (43 + g) = 1366 + g by omega] at this
      · exact ⟨σ4, 0, τ4, rfl, z_g (by decide) _, Or.inr ⟨rfl, l4, f4, by rw [e40]; exact b6, by rw [e40]; exact b8⟩⟩
    · rw [if_pos rfl]
      obtain ⟨σ3, g1, g2⟩ := deadB τ2 x σ2 ⟨l2, f2⟩
      exact ⟨σ3, 0, τ2, g1, rfl, Or.inr ⟨rfl, g2⟩⟩
  · rw [s1, z_v, if_pos rfl]
    obtain ⟨σ3, g1, g2⟩ := w_ob (w_D0num (show w_D0 σ0 τ0 τ1 σ1 from ⟨l1, f1⟩) 1 9) (fun x s hs => deadB τ1 x s hs)
    exact ⟨σ3, 0, τ1, g1, rfl, Or.inr ⟨rfl, g2⟩⟩
