/-! ===== pure: make, dim, train, know, undo ===== -/
theorem z_r3 : x_in (3 : Int32) 1372 := z_in (j := 3) (by decide) (by decide)
theorem z_r4 : x_in (4 : Int32) 1372 := z_in (j := 4) (by decide) (by decide)
/-- make -/
theorem o_make {σ τ : x_S} (h : z_Rel σ τ) (a1 a2 : Int32) : z_op (fX7_make a1 a2 σ) (fX8_make a1 a2 τ) z_Rel := by
  obtain ⟨v, n, p, V, ht, hst, hn, hp, k1, k2, k3, hV, hpast⟩ := h.2.2.2.2.1
  have h7 := ht.1.2.1
  have h6 := ht.1.2.2.1
  have h5 := ht.1.2.2.2.1
  unfold z_op fX7_make fX8_make
  rcases ht.ges a1 with ⟨h1, h2⟩ | ⟨g, hg, rfl, h1, h2⟩
  · rw [h1, h2, z_p, z_p, if_pos rfl, if_pos rfl]; exact ⟨_, _, _, rfl, rfl, h⟩
  · rcases ht.str a2 with ⟨h3, h4⟩ | ⟨s, hs, rfl, h3, h4⟩
    · rw [h1, h2, z_p, z_p, if_neg z_10, if_neg z_10, h3, h4, z_p, z_p, if_pos rfl, if_pos rfl]; exact ⟨_, _, _, rfl, rfl, h⟩
    · rw [h1, h2, z_p, z_p, if_neg z_10, if_neg z_10, h3, h4, z_p, z_p, if_neg z_10, if_neg z_10, z_Sseen ht.2.1 ht.1 hg hs, z_Mseen ht.2.2 ht.1 hg hs, z_p, z_p]
      by_cases c : z_seen v g s = true
      · rw [if_neg (by rw [c]; decide), if_neg (by rw [c]; decide), z_SD ht.2.1 ht.1 hg hs, z_MD ht.2.2 ht.1 hg hs, z_p, z_p]
        have hD := z_D_le ht.1 hg hs
        have e2 : σ 32 2 = nI (v 3) := ht.2.1.2.2.2.1
        have m2 : τ 1 3 = nI (v 3) := ht.2.2.2.2.2.1
        have cS : (σ 32 2 + nI (z_D v g s) ≤ 99999) ↔ v 3 + z_D v g s ≤ 99999 := by
          rw [e2, nI_add]; exact z_leL (y := (99999 : Int32)) 99999 rfl (by omega) (by decide)
        have cM : (τ 1 (3 : Int32).toNatClampNeg + nI (z_D v g s) ≤ 99999) ↔ v 3 + z_D v g s ≤ 99999 := by
          rw [z_c3, m2, nI_add]; exact z_leL (y := (99999 : Int32)) 99999 rfl (by omega) (by decide)
        by_cases q : v 3 + z_D v g s ≤ 99999
        · rw [if_pos (cS.mpr q), if_pos (cM.mpr q)]
          obtain ⟨-, -, -, -, e39⟩ := ht.2.1.2.2.2.2.2.2 g hg
          have e39 : σ 39 g = nI (v (43 + g)) := e39
          obtain ⟨-, -, -, -, m43⟩ := ht.2.2.2.2.2.2.2.2 g hg
          rw [Nat.zero_add] at m43
          have hS1 := z_S_paid (z_S_made ht.2.1 h7 h6 (show g < 6 by omega) (v (43 + g) + 1)) (by rw [z_setn (by omega)]; exact h7) (by rw [z_setn (by omega)]; exact h6) (v 3 + z_D v g s)
          obtain ⟨σ2, s1, s2, τ1, t1, t2, key⟩ := z_act h ht hst hn hp k1 k2 k3 hV hpast (σ1 := x_u (x_u σ 39 g (nI (v (43 + g) + 1))) 32 2 (nI (v 3 + z_D v g s))) (v' := z_set (z_set v (43 + g) (v (43 + g) + 1)) 3 (v 3 + z_D v g s)) (d := 0) (w := g) (x := z_D v g s) (Or.inl ⟨rfl, by rw [z_setn (by omega), z_setn (by omega)]; exact hg, by rw [z_setn (by omega), z_sete]; omega, by rw [z_sete]; omega⟩) (by
              rw [z_undo0, z_set2 (v := z_set v (43 + g) (v (43 + g) + 1)) (K := 3) _ (by rw [z_sete, z_setn (by omega)]; omega)]
              exact z_set2 _ (by rw [z_setn (by omega), z_sete]; omega)) (z_ok_set (z_ok_set ht.1 (by omega) (by omega) (by omega) (by omega) (by omega) (by omega) (by omega) (by omega) (by omega) (by omega) (by omega)) (by decide) (by decide) (by decide) (fun _ => q) (by omega) (by omega) (by omega) (by omega) (by omega) (by omega) (by omega)) (fun c hc => (z_uk (by omega)).trans (z_uk (by omega))) ((z_ui (by decide)).trans (congrFun (z_uk (by decide)) 0)) hS1
          have s1 : fX0_keep 0 (nI g) (nI (z_D v g s)) (x_u (x_u σ 39 g (nI (v (43 + g) + 1))) 32 2 (nI (v 3 + z_D v g s))) = some σ2 := s1
          have ew : x_u σ 39 g (nI (v (43 + g) + 1)) 32 2 = nI (v 3) := (congrFun (z_uk (by decide)) 2).trans e2
          have ew2 : x_u τ1 1 3 (nI (v 3 + z_D v g s)) 1 (43 + g) = nI (v (43 + g)) := by rw [z_ui (by omega), t2 _ (by omega)]; exact m43
          rw [z_gi (n := 6) (by omega) (by decide), z_gi (n := 6) (by omega) (by decide), z_w, z_w, z_cl (by omega), e39, nI_1, ew, nI_add, s1, z_v, t1, z_v, z_g z_r3, z_w, z_c3, m2, nI_add, show (43 : Int32) + nI g = nI (43 + g) from nI_add 43 g, z_gi (n := 1372) (by omega) (by decide), z_gi (n := 1372) (by omega) (by decide), z_w, z_cl (by omega), ew2, nI_1]
          refine ⟨nI (v 3 + z_D v g s), σ2, _, ?_, rfl, key _ (fun c hc => (z_uk hc).trans (z_uk hc)) (fun j hj => (z_ui (by omega)).trans (z_ui (by omega))) ?_⟩
          · rw [s2 32 (by omega), z_us]
          · rw [z_set_comm (by omega)]
            exact z_M_set (z_M_set (z_M_c ht.2.2 ⟨h7, h6⟩ (fun k hk => by rw [Nat.zero_add]; exact t2 k hk)) (by decide) (by decide) _) (by omega) (by omega) _
        · rw [if_neg (fun z => q (cS.mp z)), if_neg (fun z => q (cM.mp z))]
          exact ⟨_, _, _, rfl, rfl, h⟩
      · rw [if_pos (z_B0.mpr (by simpa using c)), if_pos (z_B0.mpr (by simpa using c))]; exact ⟨_, _, _, rfl, rfl, h⟩
/-- dim -/
theorem o_dim {σ τ : x_S} (h : z_Rel σ τ) (a1 a2 : Int32) : z_op (fX7_dim a1 a2 σ) (fX8_dim a1 a2 τ) z_Rel := by
  obtain ⟨v, n, p, V, ht, hst, hn, hp, k1, k2, k3, hV, hpast⟩ := h.2.2.2.2.1
  have h7 := ht.1.2.1
  have h6 := ht.1.2.2.1
  unfold z_op fX7_dim fX8_dim
  rcases ht.str a1 with ⟨h1, h2⟩ | ⟨s, hs, rfl, h1, h2⟩
  · rw [h1, h2, z_p, z_p, if_pos rfl, if_pos rfl]; exact ⟨_, _, _, rfl, rfl, h⟩
  · rw [h1, h2, z_p, z_p, if_neg z_10, if_neg z_10, z_isWithin, show (0 : Int64) = (0 : Int32).toInt64 from rfl, show (30 : Int64) = (30 : Int32).toInt64 from rfl, z_in64, z_p, z_p]
    by_cases q : z_W a2 0 30 = 0
    · rw [if_pos q, if_pos q]; exact ⟨_, _, _, rfl, rfl, h⟩
    · rw [if_neg q, if_neg q]
      obtain ⟨y, hy, rfl⟩ := z_W3 (n := 30) (by decide) q
      have e33 : σ 33 s = nI (v (5 + s)) := (ht.2.1.2.2.2.2.2.1 s hs).1
      have m5 := (ht.2.2.2.2.2.2.2.1 s hs).1
      rw [Nat.zero_add] at m5
      have hd := (ht.1.2.2.2.2.2.1 s hs).1
      obtain ⟨σ2, s1, s2, τ1, t1, t2, key⟩ := z_act h ht hst hn hp k1 k2 k3 hV hpast (σ1 := x_u σ 33 s (nI y)) (v' := z_set v (5 + s) y) (d := 1) (w := s) (x := v (5 + s)) (Or.inr (Or.inl ⟨rfl, by rw [z_setn (by omega)]; exact hs, hd⟩)) (by
          rw [z_undo1]
          exact z_set2 _ rfl) (z_ok_set ht.1 (by omega) (by omega) (by omega) (by omega) (by omega) (fun _ _ _ => hy) (by omega) (by omega) (by omega) (by omega) (by omega)) (fun c hc => z_uk (by omega)) (congrFun (z_uk (by decide)) 0) (z_S_dim ht.2.1 h7 h6 (by omega) y)
      have s1 : fX0_keep 1 (nI s) (nI (v (5 + s))) (x_u σ 33 s (nI y)) = some σ2 := s1
      have ew2 : τ1 1 (5 + s) = nI (v (5 + s)) := by rw [t2 _ (by omega)]; exact m5
      rw [z_gi (n := 7) (by omega) (by decide), z_gi (n := 7) (by omega) (by decide), z_w, z_cl (by omega), e33, s1, z_v, t1, z_v, show (5 : Int32) + nI s = nI (5 + s) from nI_add 5 s, z_gi (n := 1372) (by omega) (by decide), z_gi (n := 1372) (by omega) (by decide), z_w, z_cl (by omega), ew2]
      exact ⟨_, _, _, rfl, rfl, key _ (fun c hc => z_uk hc) (fun j hj => z_ui (by omega)) (z_M_set (z_M_c ht.2.2 ⟨h7, h6⟩ (fun k hk => by rw [Nat.zero_add]; exact t2 k hk)) (by omega) (by omega) _)⟩
theorem z_m1 : ∀ i, i < 31 → ∀ y, y < 31 → ((1 ≤ nI i - nI y) ↔ y + 1 ≤ i) := by decide +kernel
/-- train -/
theorem o_train {σ τ : x_S} (h : z_Rel σ τ) (a1 a2 : Int32) : z_op (fX7_train a1 a2 σ) (fX8_train a1 a2 τ) z_Rel := by
  obtain ⟨v, n, p, V, ht, hst, hn, hp, k1, k2, k3, hV, hpast⟩ := h.2.2.2.2.1
  have h7 := ht.1.2.1
  have h6 := ht.1.2.2.1
  unfold z_op fX7_train fX8_train
  rcases ht.ges a1 with ⟨h1, h2⟩ | ⟨g, hg, rfl, h1, h2⟩
  · rw [h1, h2, z_p, z_p, if_pos rfl, if_pos rfl]; exact ⟨_, _, _, rfl, rfl, h⟩
  · rw [h1, h2, z_p, z_p, if_neg z_10, if_neg z_10, z_isWithin, show (1 : Int64) = (1 : Int32).toInt64 from rfl, show (29 : Int64) = (29 : Int32).toInt64 from rfl, z_in64, z_p, z_p]
    by_cases q : z_W a2 1 29 = 0
    · rw [if_pos q, if_pos q]; exact ⟨_, _, _, rfl, rfl, h⟩
    · rw [if_neg q, if_neg q]
      obtain ⟨y, hy1, hy, rfl⟩ := z_W4 (m := 1) (n := 29) (by decide) (by decide) q
      have e36 : σ 36 g = nI (v (25 + g)) := (ht.2.1.2.2.2.2.2.2 g hg).2.1
      have m25 := (ht.2.2.2.2.2.2.2.2 g hg).2.1
      rw [Nat.zero_add] at m25
      have hd := (ht.1.2.2.2.2.2.2 g hg).2.1
      have z1 := z_m1 (v (25 + g)) (by omega) y (by omega)
      rw [z_gi (n := 6) (by omega) (by decide), show (25 : Int32) + nI g = nI (25 + g) from nI_add 25 g, z_gi (n := 1372) (by omega) (by decide)]
      have eS : (nI g).toNatClampNeg = g := z_cl (by omega)
      have eM : (nI (25 + g)).toNatClampNeg = 25 + g := z_cl (by omega)
      have cS : (1 ≤ σ 36 (nI g).toNatClampNeg - nI y) ↔ y + 1 ≤ v (25 + g) := by rw [eS, e36]; exact z1
      have cM : (1 ≤ τ 1 (nI (25 + g)).toNatClampNeg - nI y) ↔ y + 1 ≤ v (25 + g) := by rw [eM, m25]; exact z1
      by_cases c : y + 1 ≤ v (25 + g)
      · rw [if_pos (cS.mpr c), if_pos (cM.mpr c)]
        have esub : nI (v (25 + g)) - nI y = nI (v (25 + g) - y) := pk_sub (by omega)
        obtain ⟨σ2, s1, s2, τ1, t1, t2, key⟩ := z_act h ht hst hn hp k1 k2 k3 hV hpast (σ1 := x_u σ 36 g (nI (v (25 + g) - y))) (v' := z_set v (25 + g) (v (25 + g) - y)) (d := 2) (w := g) (x := y) (Or.inr (Or.inr (Or.inl ⟨rfl, by rw [z_setn (by omega)]; exact hg, hy1, by rw [z_sete]; omega⟩))) (by
            rw [z_undo2]
            exact z_set2 _ (by rw [z_sete]; omega)) (z_ok_set ht.1 (by omega) (by omega) (by omega) (by omega) (by omega) (by omega) (by omega) (by omega) (fun _ _ _ => by omega) (by omega) (by omega)) (fun c hc => z_uk (by omega)) (congrFun (z_uk (by decide)) 0) (z_S_inch ht.2.1 h7 h6 (by omega) _)
        have s1 : fX0_keep 2 (nI g) (nI y) (x_u σ 36 g (nI (v (25 + g) - y))) = some σ2 := s1
        have ew2 : τ1 1 (25 + g) = nI (v (25 + g)) := by rw [t2 _ (by omega)]; exact m25
        have w36 : x_u σ 36 (nI g).toNatClampNeg (σ 36 (nI g).toNatClampNeg - nI y) = x_u σ 36 g (nI (v (25 + g) - y)) := by rw [eS, e36, esub]
        rw [z_gi (n := 6) (by omega) (by decide), z_gi (n := 6) (by omega) (by decide), z_w, w36, s1, z_v, z_gi (n := 6) (by omega) (by decide), eS, t1, z_v, z_gi (n := 1372) (by omega) (by decide), z_gi (n := 1372) (by omega) (by decide), z_w, z_gi (n := 1372) (by omega) (by decide), eM, ew2, esub]
        refine ⟨nI (v (25 + g) - y), σ2, _, ?_, ?_, key _ (fun c hc => z_uk hc) (fun j hj => z_ui (by omega)) (z_M_set (z_M_c ht.2.2 ⟨h7, h6⟩ (fun k hk => by rw [Nat.zero_add]; exact t2 k hk)) (by omega) (by omega) _)⟩
        · rw [s2 36 (by omega), z_us]
        · rw [z_us]
      · rw [if_neg (fun z => c (cS.mp z)), if_neg (fun z => c (cM.mp z))]; exact ⟨_, _, _, rfl, rfl, h⟩
/-- know -/
theorem o_know {σ τ : x_S} (h : z_Rel σ τ) (a1 a2 : Int32) : z_op (fX7_know a1 a2 σ) (fX8_know a1 a2 τ) z_Rel := by
  obtain ⟨v, n, p, V, ht, hst, hn, hp, k1, k2, k3, hV, hpast⟩ := h.2.2.2.2.1
  have h7 := ht.1.2.1
  have h6 := ht.1.2.2.1
  have h128 := ht.1.2.2.2.2.1
  unfold z_op fX7_know fX8_know
  rcases ht.str a1 with ⟨h1, h2⟩ | ⟨s, hs, rfl, h1, h2⟩
  · rw [h1, h2, z_p, z_p, if_pos rfl, if_pos rfl]; exact ⟨_, _, _, rfl, rfl, h⟩
  · rw [h1, h2, z_p, z_p, if_neg z_10, if_neg z_10, z_isWithin, show (0 : Int64) = (0 : Int32).toInt64 from rfl, show (1 : Int64) = (1 : Int32).toInt64 from rfl, z_in64, z_p, z_p]
    by_cases q : z_W a2 0 1 = 0
    · rw [if_pos q, if_pos q]; exact ⟨_, _, _, rfl, rfl, h⟩
    · rw [if_neg q, if_neg q]
      have e4 : σ 32 4 = nI (v 4) := ht.2.1.2.2.2.2.1
      have m4 : τ 1 4 = nI (v 4) := ht.2.2.2.2.2.2.1
      have hb := z_bit (v 4) h128 s (by omega)
      obtain ⟨x1, x2, x3⟩ := z_xor (v 4) h128 s (by omega)
      have kS : fX2_isKnown 32 (nI s) σ = some (z_B ((v 4).testBit s)) := by
        unfold fX2_isKnown
        rw [e4]
        by_cases c : (v 4).testBit s = true
        · rw [if_pos (hb.mpr c), c]; rfl
        · rw [if_neg (fun z => c (hb.mp z)), show (v 4).testBit s = false by simpa using c]; rfl
      have kM : fX8_has (nI (v 4)) (nI s) τ = some (z_B ((v 4).testBit s)) := by
        unfold fX8_has
        by_cases c : (v 4).testBit s = true
        · rw [if_pos (hb.mpr c), c]; rfl
        · rw [if_neg (fun z => c (hb.mp z)), show (v 4).testBit s = false by simpa using c]; rfl
      rw [kS, z_c4, m4, kM, z_p, z_p]
      have fin : ∀ y0 : Int32, z_op (bX7_know_38 (nI s) y0 (z_B ((v 4).testBit s)) σ) (bX8_know_41 (nI s) y0 (z_B ((v 4).testBit s)) τ) z_Rel := by
        intro y0
        unfold z_op bX7_know_38 bX8_know_41
        by_cases c : z_B ((v 4).testBit s) = y0
        · rw [if_pos c, if_pos c]; exact ⟨_, _, _, rfl, rfl, h⟩
        · rw [if_neg c, if_neg c]
          obtain ⟨σ2, s1, s2, τ1, t1, t2, key⟩ := z_act h ht hst hn hp k1 k2 k3 hV hpast (σ1 := x_u σ 32 4 (nI (v 4 ^^^ (1 <<< s)))) (v' := z_set v 4 (v 4 ^^^ (1 <<< s))) (d := 3) (w := s) (x := 0) (Or.inr (Or.inr (Or.inr ⟨rfl, by rw [z_setn (by omega)]; exact hs, rfl⟩))) (by
              rw [z_undo3]
              exact z_set2 _ (by rw [z_sete]; exact x3)) (z_ok_set ht.1 (by decide) (by decide) (by decide) (by omega) (fun _ => x2) (by omega) (by omega) (by omega) (by omega) (by omega) (by omega)) (fun c hc => z_uk (by omega)) (z_ui (by decide)) (z_S_known ht.2.1 h7 h6 _)
          have s1 : fX0_keep 3 (nI s) 0 (x_u σ 32 4 (nI (v 4 ^^^ (1 <<< s)))) = some σ2 := s1
          have ew2 : τ1 1 4 = nI (v 4) := by rw [t2 _ (by omega)]; exact m4
          unfold fX2_turnKnown
          rw [e4, x1, z_w, z_v, s1, z_v, t1, z_v, z_g z_r4, z_w, z_c4, ew2, x1]
          refine ⟨nI (v 4 ^^^ (1 <<< s)), σ2, _, ?_, ?_, key _ (fun c hc => z_uk hc) (fun j hj => z_ui (by omega)) (z_M_set (z_M_c ht.2.2 ⟨h7, h6⟩ (fun k hk => by rw [Nat.zero_add]; exact t2 k hk)) (by omega) (by omega) _)⟩
          · rw [s2 32 (by omega), z_us]
          · rw [z_us]
      by_cases c : a2 = 1
      · rw [if_pos c, if_pos c]; exact fin 1
      · rw [if_neg c, if_neg c]; exact fin 0
theorem z_undo_ok {v : z_V} {d w x : Nat} (hv : z_ok v) (h : z_actok d w x v) : z_ok (z_undo d w x v) := by
  have h7 := hv.2.1
  have h6 := hv.2.2.1
  have h5 := hv.2.2.2.1
  rcases h with ⟨rfl, hw, h1, h2⟩ | ⟨rfl, hw, h1⟩ | ⟨rfl, hw, h1, h2⟩ | ⟨rfl, hw, h1⟩
  · rw [z_undo0]
    exact z_ok_set (z_ok_set hv (by decide) (by decide) (by decide) (fun _ => by omega) (by omega) (by omega) (by omega) (by omega) (by omega) (by omega) (by omega)) (by omega) (by omega) (by omega) (by omega) (by omega) (by omega) (by omega) (by omega) (by omega) (by omega) (by omega)
  · rw [z_undo1]
    exact z_ok_set hv (by omega) (by omega) (by omega) (by omega) (by omega) (fun _ _ _ => h1) (by omega) (by omega) (by omega) (by omega) (by omega)
  · rw [z_undo2]
    exact z_ok_set hv (by omega) (by omega) (by omega) (by omega) (by omega) (by omega) (by omega) (by omega) (fun _ _ _ => by omega) (by omega) (by omega)
  · rw [z_undo3]
    exact z_ok_set hv (by decide) (by decide) (by decide) (by omega) (fun _ => (z_xor (v 4) hv.2.2.2.2.1 w (by omega)).2.1) (by omega) (by omega) (by omega) (by omega) (by omega) (by omega)
