/-! ===== pure: as, count, trace, feed, saved, worst, shut, quick ===== -/
theorem z_kinds : ∀ kd, kd < 6 → 1 ≤ kd → ∀ k, k < 6 → (fX3_isOneOf (nI kd) (nI k) (fun _ _ => 0) = some (if k = 0 ∨ k = kd ∨ (k = 1 ∧ (kd = 2 ∨ kd = 3)) ∨ (k = 4 ∧ kd = 5) then 1 else 0)) := by decide +kernel
/-- as -/
theorem o_as {σ τ : x_S} (h : z_Rel σ τ) (a1 a2 : Int32) : z_op (fX7_as a1 a2 σ) (fX8_as a1 a2 τ) z_Rel := by
  obtain ⟨v, n, p, V, ht, -⟩ := h.2.2.2.2.1
  unfold z_op fX7_as fX8_as
  rcases ht.ges a1 with ⟨h1, h2⟩ | ⟨g, hg, rfl, h1, h2⟩
  · rw [h1, h2, z_p, z_p, if_pos rfl, if_pos rfl]
    exact ⟨_, _, _, rfl, rfl, h⟩
  · rw [h1, h2, z_p, z_p, if_neg z_10, if_neg z_10, z_isWithin, show (0 : Int64) = (0 : Int32).toInt64 from rfl, show (5 : Int64) = (5 : Int32).toInt64 from rfl, z_in64, z_p, z_p]
    by_cases q : z_W a2 0 5 = 0
    · rw [if_pos q, if_pos q]
      exact ⟨_, _, _, rfl, rfl, h⟩
    · rw [if_neg q, if_neg q]
      obtain ⟨k, hk, rfl⟩ := z_W3 (n := 5) (by decide) q
      have h6 := ht.1.2.2.1
      obtain ⟨⟨k1, k5⟩, -⟩ := ht.1.2.2.2.2.2.2 g hg
      obtain ⟨e1, -⟩ := ht.2.1.2.2.2.2.2.2 g hg
      obtain ⟨f1, -⟩ := ht.2.2.2.2.2.2.2.2 g hg
      rw [Nat.zero_add] at f1
      have e1 : σ 35 g = nI (v (19 + g)) := e1
      have hS : fX3_isOneOf (nI (v (19 + g))) (nI k) σ = some (if k = 0 ∨ k = v (19 + g) ∨ (k = 1 ∧ (v (19 + g) = 2 ∨ v (19 + g) = 3)) ∨ (k = 4 ∧ v (19 + g) = 5) then 1 else 0) := z_kinds (v (19 + g)) (by omega) k1 k (by omega)
      have hM : fX8_isOf (nI g) (nI k) τ = some (if k = 0 ∨ k = v (19 + g) ∨ (k = 1 ∧ (v (19 + g) = 2 ∨ v (19 + g) = 3)) ∨ (k = 4 ∧ v (19 + g) = 5) then 1 else 0) := by
        unfold fX8_isOf bX8_isOf_34
        rw [show (19 : Int32) + nI g = nI (19 + g) from nI_add 19 g, z_gi (n := 1372) (by omega) (by decide), z_cl (by omega), f1]
        generalize v (19 + g) = kd at k1 k5
        have key : ∀ kd, kd < 6 → 1 ≤ kd → ∀ k, k < 6 → (if nI k = 0 then some (1 : Int32) else if nI k = nI kd then some 1 else if nI k = 1 then if nI kd = 2 then some 1 else if nI kd = 3 then some 1 else if nI k = 4 then if nI kd = 5 then some 1 else some 0 else some 0 else if nI k = 4 then if nI kd = 5 then some 1 else some 0 else some 0) = some (if k = 0 ∨ k = kd ∨ (k = 1 ∧ (kd = 2 ∨ kd = 3)) ∨ (k = 4 ∧ kd = 5) then 1 else 0) := by decide +kernel
        exact key kd (by omega) k1 k (by omega)
      rw [z_gi (n := 6) (by omega) (by decide), z_cl (by omega), e1, hS, hM, z_p, z_p]
      by_cases c : k = 0 ∨ k = v (19 + g) ∨ (k = 1 ∧ (v (19 + g) = 2 ∨ v (19 + g) = 3)) ∨ (k = 4 ∧ v (19 + g) = 5)
      · rw [if_pos c, if_neg z_10, if_neg z_10, z_fno, z_well, z_b, z_b]
        exact ⟨_, _, _, rfl, rfl, z_Rel_st h 0⟩
      · rw [if_neg c, if_pos rfl, if_pos rfl, z_found, z_find, z_b, z_b]
        exact ⟨_, _, _, rfl, rfl, z_Rel_st h 3⟩
/-- an op that changes nothing -/
def z_rd (x y : Option Int32) : Prop := ∃ r, x = some r ∧ y = some r
theorem o_status {σ τ : x_S} (h : z_Rel σ τ) : z_rd (fX7_status σ) (fX8_status τ) := ⟨_, rfl, by rw [show σ 0 8 = τ 0 10 from h.1]; rfl⟩
theorem o_fault {σ τ : x_S} (h : z_Rel σ τ) : z_rd (fX7_fault σ) (fX8_fault τ) := ⟨_, rfl, by rw [h.2.2.2.1]; rfl⟩
/-- trace -/
theorem o_trace {σ τ : x_S} (h : z_Rel σ τ) (a1 : Int32) : z_rd (fX7_trace a1 σ) (fX8_trace a1 τ) := by
  obtain ⟨n, hn, e1, e2, e3⟩ := h.2.2.2.2.2.2
  unfold z_rd fX7_trace fX1_numberLeft fX8_trace
  rw [e1, e2, show (0 : Int64) = (0 : Int32).toInt64 from rfl, z_in64, z_p]
  rcases z_W_n a1 (n := n) (by omega) with ⟨q, q2⟩ | ⟨g, hg, rfl, q⟩
  · rw [q, if_pos rfl]
    by_cases c : a1 < 0
    · rw [if_pos c]; exact ⟨_, rfl, rfl⟩
    · rw [if_neg c, if_pos (q2.resolve_left c)]; exact ⟨_, rfl, rfl⟩
  · rw [q, if_neg z_10, if_neg (nI_pos (by omega)), if_neg (nI_ge hg (by omega)), z_gi (n := 16) (by omega) (by decide), z_gi (n := 16) (by omega) (by decide), z_cl (by omega), e3 g hg]
    exact ⟨_, rfl, rfl⟩
theorem z_bc : ∀ k, k < 128 → fJ6_bitCount_0f7a4 (nI k) (fun _ _ => 0) = fX8_bits (nI k) (fun _ _ => 0) ∧ (fX8_bits (nI k) (fun _ _ => 0)).isSome = true := by decide +kernel
theorem z_many {σ τ : x_S} (h : z_rows σ τ) : ∃ r, fX5_howMany σ = some r ∧ bX8_count_50 0 0 τ = some r := by
  refine ⟨z_fold (fun i a => if σ 11 i = -1 then a + 0 else a + 1) 0 8 0, ?_, ?_⟩
  · unfold fX5_howMany bX5_howMany_4
    refine z_loop (N := 8) (r := fun a => some a) (f := fun i a => if σ 11 i = -1 then a + 0 else a + 1) (fun K a i hi => ?_) (fun K a => ?_) 8 x_F 0 0 (by omega) (z_fuel (by omega))
    · show gX5_howMany_4 K a (nI i) σ = _
      unfold gX5_howMany_4
      rw [if_neg (fun z => by have := (z_geL (a := i) (y := (8 : Int32)) 8 rfl (by omega) (by decide)).mp z; omega)]
      unfold fX5_isMissing
      rw [z_gi hi (by decide), z_cl (by omega), nI_1]
      by_cases c : σ 11 i = -1
      · rw [if_pos c, z_p, if_neg z_10]; simp only [c, if_true]
      · rw [if_neg c, z_p, if_pos rfl]; simp only [c, if_false]
    · show gX5_howMany_4 K a (nI 8) σ = _
      unfold gX5_howMany_4
      rw [if_pos (by decide)]
  · unfold bX8_count_50
    refine z_loop (N := 8) (r := fun a => some a) (f := fun i a => if σ 11 i = -1 then a + 0 else a + 1) (fun K a i hi => ?_) (fun K a => ?_) 8 x_F 0 0 (by omega) (z_fuel (by omega))
    · show gX8_count_50 K a (nI i) τ = _
      unfold gX8_count_50
      rw [if_neg (fun z => by have := (z_geL (a := i) (y := (8 : Int32)) 8 rfl (by omega) (by decide)).mp z; omega), z_gi hi (by decide), z_cl (by omega), nI_1]
      rcases (h i hi).2.1 with ⟨h1, h2⟩ | ⟨n, hn, h1, h2⟩
      · rw [h2, if_neg (by decide)]; simp only [h1, if_true]
      · rw [h2, if_pos (nI_pos' (by omega))]; simp only [h1, z_n1 (show n < 65536 by omega), if_false]
    · show gX8_count_50 K a (nI 8) τ = _
      unfold gX8_count_50
      rw [if_pos (by decide)]
/-- count -/
theorem o_count {σ τ : x_S} (h : z_Rel σ τ) (a1 : Int32) : z_rd (fX7_count a1 σ) (fX8_count a1 τ) := by
  obtain ⟨v, n, p, V, ht, -, -, -, k1, k2, -⟩ := h.2.2.2.2.1
  obtain ⟨L, hL, t1, t2, -⟩ := h.2.2.1
  obtain ⟨r0, w1, w2⟩ := z_many h.2.1
  obtain ⟨s0, s1, s2, s3, s4, -⟩ := ht.2.1
  obtain ⟨m0, m1, m2, m3, m4, -⟩ := ht.2.2
  have m1 : τ 1 1 = nI (v 1) := m1
  have m2 : τ 1 2 = nI (v 2) := m2
  have m3 : τ 1 3 = nI (v 3) := m3
  have m4 : τ 1 4 = nI (v 4) := m4
  obtain ⟨b1, b2⟩ := z_bc (v 4) ht.1.2.2.2.2.1
  have b1 : fJ6_bitCount_0f7a4 (nI (v 4)) σ = fX8_bits (nI (v 4)) τ := b1
  have b2 : (fX8_bits (nI (v 4)) τ).isSome = true := b2
  obtain ⟨rb, hb⟩ := Option.isSome_iff_exists.mp b2
  unfold z_rd fX7_count fX8_count
  rw [w1, w2, s0, s1, s2, s3, s4, z_c0, z_c1, z_c2, z_c3, z_c4, m0, m1, m2, m3, m4, b1, hb, k1, k2, t1, t2, z_p, z_p]
  by_cases c0 : a1 = 0
  · rw [if_pos c0]; exact ⟨_, rfl, rfl⟩
  · rw [if_neg c0]
    by_cases c1 : a1 = 1
    · simp only [c1, if_true]; exact ⟨_, rfl, rfl⟩
    · by_cases c2 : a1 = 2
      · rw [if_neg c1, if_pos c2]; exact ⟨_, rfl, rfl⟩
      · by_cases c3 : a1 = 3
        · rw [if_neg c1, if_neg c2, if_pos c3]; exact ⟨_, rfl, rfl⟩
        · by_cases c4 : a1 = 4
          · rw [if_neg c1, if_neg c2, if_neg c3, if_pos c4]; exact ⟨_, rfl, rfl⟩
          · by_cases c5 : a1 = 5
            · rw [if_neg c1, if_neg c2, if_neg c3, if_neg c4, if_pos c5]; exact ⟨_, rfl, rfl⟩
            · by_cases c6 : a1 = 6
              · rw [if_neg c1, if_neg c2, if_neg c3, if_neg c4, if_neg c5, if_pos c6]; exact ⟨_, rfl, rfl⟩
              · by_cases c7 : a1 = 7
                · rw [if_neg c1, if_neg c2, if_neg c3, if_neg c4, if_neg c5, if_neg c6, if_pos c7]; exact ⟨_, rfl, rfl⟩
                · rw [if_neg c1, if_neg c2, if_neg c3, if_neg c4, if_neg c5, if_neg c6, if_neg c7]; exact ⟨_, rfl, rfl⟩
/-- feed -/
theorem o_feed {σ τ : x_S} (h : z_Rel σ τ) (a1 : Int32) : z_op (fX7_feed a1 σ) (fX8_feed a1 τ) z_Rel := by
  unfold z_op fX7_feed fX8_feed
  rw [z_isWithin, show (0 : Int64) = (0 : Int32).toInt64 from rfl, show (255 : Int64) = (255 : Int32).toInt64 from rfl, z_in64, z_p, z_p]
  by_cases q : z_W a1 0 255 = 0
  · rw [if_pos q, if_pos q]
    exact ⟨_, _, _, rfl, rfl, h⟩
  · rw [if_neg q, if_neg q]
    obtain ⟨hst, hr, ⟨L, hL, t1, t2, t3⟩, hf, hto, him, htr⟩ := h
    unfold fX4_append fX4_isFull
    rw [t1, t2]
    by_cases c : L = 120
    · subst c
      rw [if_neg (by decide), z_p, if_neg z_10, if_pos (by decide)]
      exact ⟨_, _, _, rfl, rfl, hst, hr, ⟨120, hL, t1, t2, t3⟩, hf, hto, him, htr⟩
    · rw [if_pos ((z_ltL (y := (120 : Int32)) 120 rfl (by omega) (by decide)).mpr (by omega)), z_p, if_pos rfl, z_p, if_pos rfl, if_neg (fun z => c ((z_eqL (y := (120 : Int32)) 120 rfl (by omega) (by decide)).mp z)), z_gi (n := 120) (by omega) (by decide), z_gi (n := 120) (by omega) (by decide), z_w, z_w, z_w, z_w, z_cl (by omega)]
      have a13 : x_u σ 14 L a1 13 = σ 13 := z_uk (by decide)
      have b0 : x_u τ 6 L a1 0 = τ 0 := z_uk (by decide)
      rw [a13, t1, b0, t2, nI_1, z_b]
      rw [z_us, z_us]
      refine ⟨_, _, _, rfl, rfl, ?_, z_rows_c hr (fun k g1 g2 => (z_uk (by omega)).trans (z_uk (by omega))) ((z_uk (by decide)).trans (z_uk (by decide))) ((z_uk (by decide)).trans (z_uk (by decide))) ((z_uk (by decide)).trans (z_uk (by decide))), ⟨L + 1, by omega, z_us _ _ _ _, z_us _ _ _ _, fun i hi => ?_⟩, ?_, z_town_c hto (fun k g1 g2 => (z_uk (by omega)).trans (z_uk (by omega))) (fun k g1 g2 => (z_uk (by omega)).trans (z_uk (by omega))) (fun k g => congrFun ((z_uk (by decide)).trans (z_uk (by decide))) k) ((z_ui (by decide)).trans (congrFun b0 1)) ((z_ui (by decide)).trans (congrFun b0 2)), z_ims_c him (fun k g1 g2 => (z_uk (by omega)).trans (z_uk (by omega))) (fun k g => congrFun ((z_uk (by decide)).trans (z_uk (by decide))) _) ((z_uk (by decide)).trans (z_uk (by decide))) (fun z => (z_ui (by decide)).trans ((congrFun b0 1).trans z)), z_tr_c htr (congrFun ((z_uk (by decide)).trans (z_uk (by decide))) 1) ((z_uk (by decide)).trans (z_uk (by decide))) ((z_ui (by decide)).trans (congrFun b0 12)) ((z_uk (by decide)).trans (z_uk (by decide)))⟩
      · show x_u (x_u σ 14 L a1) 13 1 (nI (L + 1)) 0 8 = x_u (x_u τ 6 L a1) 0 8 (nI (L + 1)) 0 10
        rw [z_uk (by decide), z_uk (by decide), z_ui (by decide), b0]
        exact hst
      · rw [z_uk (k := 13) (by decide), z_uk (k := 0) (by decide)]
        by_cases e : i = L
        · subst e; rw [z_us, z_us]
        · rw [z_ui e, z_ui e]; exact t3 i (by omega)
      · rw [z_ui (by decide), z_ui (by decide), a13, b0]
        exact hf
