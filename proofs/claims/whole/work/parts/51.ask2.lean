/-! ===== pure: ask, on ===== -/
section
variable {σ0 τ0 : x_S} {v : z_V} {g : Nat}
theorem z_b11 (ht : z_T σ0 τ0 v) (hg : g < v 2) (hk3 : v (19 + g) ≤ 3) {σ τ : x_S} {n d : Nat} (h : z_Q σ0 τ0 n σ τ) (hn : n + 4 < 16) (hd : d + 3 < 16) (f : Nat) : z_an σ0 τ0 (n + 5) (fX1_given_n (f + 4) 11 32 (nI g) (nI d) σ) (fX8_wavesSize (nI g) τ) := by
  obtain ⟨σ', τ', l1, l2, q⟩ := z_lv h (by omega) 11
  obtain ⟨m, r, σ2, τ2, g1, g2, hm, q2⟩ := z_b10 ht hg q (d := d + 1) (by omega) (by omega) (f + 2)
  obtain ⟨m3, r3, σ3, τ3, g3, g4, hm3, q3⟩ := z_mk ht hg hk3 q2 (d := d + 1) (by omega) (by omega) f
  refine ⟨m3, r + r3, σ3, τ3, ?_, ?_, by omega, q3⟩
  · rw [show fX1_given_n (f + 4) 11 32 (nI g) (nI d) σ = _ from z_gv (f + 3) (by omega) l1, if_neg (by decide)]
    unfold fX1_sizeBy
    rw [if_neg (by decide), if_pos rfl, g1, z_b, g3, z_b]
  · unfold fX8_wavesSize
    rw [l2, z_v, g2, z_b, g4, z_b]
theorem z_b13 (ht : z_T σ0 τ0 v) (hg : g < v 2) {σ τ : x_S} {n d : Nat} (h : z_Q σ0 τ0 n σ τ) (hn : n + 1 < 16) (hd : d + 1 < 16) (f : Nat) : z_an σ0 τ0 (n + 2) (fX1_given_n (f + 2) 13 32 (nI g) (nI d) σ) (fX8_winksSize (nI g) τ) := by
  obtain ⟨σ', τ', l1, l2, q⟩ := z_lv h (by omega) 13
  obtain ⟨m, r, σ2, τ2, g1, g2, hm, q2⟩ := z_b10 ht hg q (d := d + 1) (by omega) (by omega) f
  refine ⟨m, r - 100, σ2, τ2, ?_, ?_, by omega, q2⟩
  · rw [show fX1_given_n (f + 2) 13 32 (nI g) (nI d) σ = _ from z_gv (f + 1) (by omega) l1, if_neg (by decide)]
    unfold fX1_sizeBy
    rw [if_neg (by decide), if_neg (by decide), if_neg (by decide), if_pos rfl, g1, z_b]
  · unfold fX8_winksSize
    rw [l2, z_v, g2, z_b]
/-- asked for the size -/
theorem z_szk (ht : z_T σ0 τ0 v) (hg : g < v 2) {σ τ : x_S} {n d : Nat} (h : z_Q σ0 τ0 n σ τ) (hn : n + 5 < 16) (hd : d + 4 < 16) (f : Nat) : z_an σ0 τ0 (n + 6) (fX1_asked (fX1_given_n (f + 5)) 32 (nI g) 0 (nI d) σ) (fX8_sizeOf (nI g) τ) := by
  have h6 := ht.1.2.2.1
  obtain ⟨⟨k1, k5⟩, -⟩ := ht.1.2.2.2.2.2.2 g hg
  have e1 : σ 35 g = nI (v (19 + g)) := (congrFun (h.1 35 (by decide) (by decide)) g).trans (ht.2.1.2.2.2.2.2.2 g hg).1
  have e2 : τ 1 (19 + g) = nI (v (19 + g)) := by
    have := (ht.2.2.2.2.2.2.2.2 g hg).1
    rw [Nat.zero_add] at this
    exact (congrFun (h.2.1 1 (by decide) (by decide)) _).trans this
  have hb : fX1_bodyFor 1 (nI (v (19 + g))) σ = some (if v (19 + g) = 1 then 11 else if v (19 + g) = 2 then 12 else if v (19 + g) = 3 then 11 else if v (19 + g) = 4 then 13 else 14) := (z_bodies (v (19 + g)) (by omega) k1).1
  have cg : (nI (19 + g)).toNatClampNeg = 19 + g := z_cl (by omega)
  unfold z_an fX1_asked bX1_asked_13 fX8_sizeOf
  rw [if_pos rfl, z_gi (n := 6) (by omega) (by decide), z_cl (by omega), e1, hb, z_p, show (19 : Int32) + nI g = nI (19 + g) from nI_add 19 g, z_gi (n := 1372) (by omega) (by decide)]
  have key2 : ∀ k : Nat, k < 6 → ((τ 1 (nI (19 + g)).toNatClampNeg = nI k) ↔ v (19 + g) = k) := fun k hk => by rw [cg, e2]; exact nI_eq (by omega) (by omega)
  have cA : (τ 1 (nI (19 + g)).toNatClampNeg = 2) ↔ v (19 + g) = 2 := key2 2 (by omega)
  have cB : (τ 1 (nI (19 + g)).toNatClampNeg = 3) ↔ v (19 + g) = 3 := key2 3 (by omega)
  have cC : (τ 1 (nI (19 + g)).toNatClampNeg = 4) ↔ v (19 + g) = 4 := key2 4 (by omega)
  have cD : (τ 1 (nI (19 + g)).toNatClampNeg = 5) ↔ v (19 + g) = 5 := key2 5 (by omega)
  rcases (show v (19 + g) = 1 ∨ v (19 + g) = 2 ∨ v (19 + g) = 3 ∨ v (19 + g) = 4 ∨ v (19 + g) = 5 by omega) with e | e | e | e | e
  · obtain ⟨m, r, σ2, τ2, g1, g2, hm, q2⟩ := z_b11 ht hg (by omega) h (d := d) (by omega) (by omega) (f + 1)
    refine ⟨m, r, σ2, τ2, ?_, ?_, by omega, q2⟩
    · rw [if_pos e, g1, z_b]
    · rw [if_neg (fun z => by have := cA.mp z; omega), if_neg (fun z => by have := cB.mp z; omega), if_neg (fun z => by have := cC.mp z; omega), if_neg (fun z => by have := cD.mp z; omega), g2, z_b]
  · obtain ⟨σ', τ', l1, l2, q⟩ := z_lv h (by omega) 12
    obtain ⟨m, r, σ2, τ2, g1, g2, hm, q2⟩ := z_b11 ht hg (by omega) q (d := d + 1) (by omega) (by omega) f
    have s1 : fX1_given_n (f + 5) 12 32 (nI g) (nI d) σ = some (-r, σ2) := by
      rw [show fX1_given_n (f + 5) 12 32 (nI g) (nI d) σ = _ from z_gv (f + 4) (by omega) l1, if_neg (by decide)]
      unfold fX1_sizeBy
      rw [if_neg (by decide), if_neg (by decide), if_pos rfl, g1, z_b]
    refine ⟨m, -r, σ2, τ2, ?_, ?_, by omega, q2⟩
    · rw [if_neg (by omega), if_pos e, s1, z_b]
    · rw [if_pos (cA.mpr e), l2, z_v, g2, z_b]
  · obtain ⟨m, r, σ2, τ2, g1, g2, hm, q2⟩ := z_b11 ht hg (by omega) h (d := d) (by omega) (by omega) (f + 1)
    refine ⟨m, r, σ2, τ2, ?_, ?_, by omega, q2⟩
    · rw [if_neg (by omega), if_neg (by omega), if_pos e, g1, z_b]
    · rw [if_neg (fun z => by have := cA.mp z; omega), if_pos (cB.mpr e), g2, z_b]
  · obtain ⟨m, r, σ2, τ2, g1, g2, hm, q2⟩ := z_b13 ht hg h (d := d) (by omega) (by omega) (f + 3)
    refine ⟨m, r, σ2, τ2, ?_, ?_, by omega, q2⟩
    · rw [if_neg (by omega), if_neg (by omega), if_neg (by omega), if_pos e, g1, z_b]
    · rw [if_neg (fun z => by have := cA.mp z; omega), if_neg (fun z => by have := cB.mp z; omega), if_pos (cC.mpr e), g2, z_b]
  · obtain ⟨σ', τ', l1, l2, q⟩ := z_lv h (by omega) 14
    obtain ⟨m, r, σ2, τ2, g1, g2, hm, q2⟩ := z_b13 ht hg q (d := d + 1) (by omega) (by omega) (f + 2)
    have s1 : fX1_given_n (f + 5) 14 32 (nI g) (nI d) σ = some (2 * r, σ2) := by
      rw [show fX1_given_n (f + 5) 14 32 (nI g) (nI d) σ = _ from z_gv (f + 4) (by omega) l1, if_neg (by decide)]
      unfold fX1_sizeBy
      rw [if_neg (by decide), if_neg (by decide), if_neg (by decide), if_neg (by decide), if_pos rfl, g1, z_b]
    refine ⟨m, 2 * r, σ2, τ2, ?_, ?_, by omega, q2⟩
    · rw [if_neg (by omega), if_neg (by omega), if_neg (by omega), if_neg (by omega), s1, z_b]
    · rw [if_neg (fun z => by have := cA.mp z; omega), if_neg (fun z => by have := cB.mp z; omega), if_neg (fun z => by have := cC.mp z; omega), if_pos (cD.mpr e), l2, z_v, g2, z_b]
theorem z_b23 (ht : z_T σ0 τ0 v) (hg : g < v 2) {σ τ : x_S} {n d : Nat} (h : z_Q σ0 τ0 n σ τ) (hn : n + 7 < 16) (hd : d + 5 < 16) (f : Nat) : z_an σ0 τ0 (n + 8) (fX1_given_n (f + 6) 23 32 (nI g) (nI d) σ) (fX8_winksMark (nI g) τ) := by
  obtain ⟨σ', τ', l1, l2, q⟩ := z_lv h (by omega) 23
  obtain ⟨m, r, σ2, τ2, g1, g2, hm, q2⟩ := z_b20 (g := g) q (d := d + 1) (by omega) (by omega) (f + 4)
  obtain ⟨m3, r3, σ3, τ3, g3, g4, hm3, q3⟩ := z_szk ht hg q2 (d := d + 1) (by omega) (by omega) f
  refine ⟨m3, r - r3, σ3, τ3, ?_, ?_, by omega, q3⟩
  · rw [show fX1_given_n (f + 6) 23 32 (nI g) (nI d) σ = _ from z_gv (f + 5) (by omega) l1, if_pos (by decide)]
    unfold fX1_markBy
    rw [if_neg (by decide), if_neg (by decide), if_neg (by decide), if_pos rfl, g1, z_b, g3, z_b]
  · unfold fX8_winksMark
    rw [l2, z_v, g2, z_b, g4, z_b]
end
theorem z_Rel_Q {σ τ σ' τ' : x_S} {m : Nat} (h : z_Rel σ τ) (q : z_Q σ τ m σ' τ') (hm : m ≤ 16) : z_Rel σ' τ' := by
  obtain ⟨hs, hr, hta, hf, hto, him, htr⟩ := h
  obtain ⟨q1, q2, q3, q4, q5, q6⟩ := q
  refine ⟨?_, z_rows_c hr (fun k g1 g2 => q1 k (by omega) (by omega)) (q2 3 (by decide) (by decide)) (q2 4 (by decide) (by decide)) (q2 5 (by decide) (by decide)), z_tape_c hta (by rw [q1 13 (by decide) (by decide)]) (q1 14 (by decide) (by decide)) (q3 8 (by decide)) (q2 6 (by decide) (by decide)), ?_, z_town_c hto (fun k g1 g2 => q1 k (by omega) (by omega)) (fun k g1 g2 => q1 k (by omega) (by omega)) (fun k _ => by rw [q2 1 (by decide) (by decide)]) (q3 1 (by decide)) (q3 2 (by decide)), z_ims_c him (fun k g1 g2 => q1 k (by omega) (by omega)) (fun k _ => by rw [q2 1 (by decide) (by decide)]) (q2 2 (by decide) (by decide)) (fun z => (q3 1 (by decide)).trans z), ⟨m, hm, q4, q5, q6⟩⟩
  · show σ' 0 8 = τ' 0 10
    rw [q1 0 (by decide) (by decide), q3 10 (by decide)]; exact hs
  · rw [q1 13 (by decide) (by decide), q3 9 (by decide)]; exact hf
theorem z_isOf4 : ∀ kd, kd < 6 → 1 ≤ kd → (if (4 : Int32) = 0 then some (1 : Int32) else if (4 : Int32) = nI kd then some 1 else if (4 : Int32) = 1 then if nI kd = 2 then some 1 else if nI kd = 3 then some 1 else if (4 : Int32) = 4 then if nI kd = 5 then some 1 else some 0 else some 0 else if (4 : Int32) = 4 then if nI kd = 5 then some 1 else some 0 else some 0) = some (if kd ≤ 3 then 0 else 1) := by decide +kernel
/-- ask -/
theorem o_ask {σ τ : x_S} (h : z_Rel σ τ) (a1 a2 : Int32) : z_op (fX7_ask a1 a2 σ) (fX8_ask a1 a2 τ) z_Rel := by
  obtain ⟨v, n0, p, V, ht, -⟩ := h.2.2.2.2.1
  have h6 := ht.1.2.2.1
  unfold z_op fX7_ask fX8_ask
  rcases ht.ges a1 with ⟨h1, h2⟩ | ⟨g, hg, rfl, h1, h2⟩
  · rw [h1, h2, z_p, z_p, if_pos rfl, if_pos rfl]; exact ⟨_, _, _, rfl, rfl, h⟩
  · rw [h1, h2, z_p, z_p, if_neg z_10, if_neg z_10, z_isWithin, show (0 : Int64) = (0 : Int32).toInt64 from rfl, show (1 : Int64) = (1 : Int32).toInt64 from rfl, z_in64, z_p, z_p]
    by_cases q : z_W a2 0 1 = 0
    · rw [if_pos q, if_pos q]; exact ⟨_, _, _, rfl, rfl, h⟩
    · rw [if_neg q, if_neg q]
      obtain ⟨k, hk, rfl⟩ := z_W3 (n := 1) (by decide) q
      unfold fX1_answer
      rw [z_w, z_w]
      have hq : z_Q σ τ 0 (x_u σ 30 1 0) (x_u τ 0 12 0) := ⟨fun c g1 g2 => z_uk g1, fun c g1 g2 => z_uk g1, fun j hj => z_ui hj, z_us _ _ _ _, z_us _ _ _ _, fun i hi => absurd hi (by omega)⟩
      rcases (show k = 0 ∨ k = 1 by omega) with rfl | rfl
      · obtain ⟨m, r, σ', τ', g1, g2, hm, q2⟩ := z_szk ht hg hq (d := 0) (by omega) (by omega) 7
        have g1 : fX1_asked (fX1_given_n 12) 32 (nI g) (nI 0) 0 (x_u σ 30 1 0) = some (r, σ') := g1
        rw [g1, z_b, z_b, if_pos (show (nI 0 : Int32) = 0 from rfl), g2, z_b]
        exact ⟨_, _, _, rfl, rfl, z_Rel_Q h q2 (by omega)⟩
      · obtain ⟨⟨k1, k5⟩, -⟩ := ht.1.2.2.2.2.2.2 g hg
        obtain ⟨m1, -⟩ := ht.2.2.2.2.2.2.2.2 g hg
        rw [Nat.zero_add] at m1
        have hM : fX8_isOf (nI g) 4 (x_u τ 0 12 0) = some (if v (19 + g) ≤ 3 then 0 else 1) := by
          unfold fX8_isOf bX8_isOf_34
          rw [show (19 : Int32) + nI g = nI (19 + g) from nI_add 19 g, z_gi (n := 1372) (by omega) (by decide), z_cl (by omega), z_uk (by decide), m1]
          exact z_isOf4 (v (19 + g)) (by omega) k1
        rw [if_neg (show ¬ (nI 1 : Int32) = 0 by decide), hM, z_p]
        by_cases c : v (19 + g) ≤ 3
        · obtain ⟨m, r, σ', τ', g1, g2, hm, q2⟩ := z_mk ht hg c hq (d := 0) (by omega) (by omega) 9
          have g1 : fX1_asked (fX1_given_n 12) 32 (nI g) (nI 1) 0 (x_u σ 30 1 0) = some (r, σ') := g1
          rw [g1, z_b, z_b, if_pos c, if_pos rfl, g2, z_b]
          exact ⟨_, _, _, rfl, rfl, z_Rel_Q h q2 (by omega)⟩
        · obtain ⟨m, r, σ', τ', g1, g2, hm, q2⟩ := z_b23 ht hg hq (d := 0) (by omega) (by omega) 6
          have g1 : fX1_given_n 12 23 32 (nI g) 0 (x_u σ 30 1 0) = some (r, σ') := g1
          have hb : fX1_bodyFor 2 (nI (v (19 + g))) (x_u σ 30 1 0) = some (if v (19 + g) = 1 then 21 else if v (19 + g) = 2 then 24 else if v (19 + g) = 3 then 22 else 23) := (z_bodies (v (19 + g)) (by omega) k1).2
          have e1 : x_u σ 30 1 0 35 g = nI (v (19 + g)) := (congrFun (z_uk (by decide)) g).trans (ht.2.1.2.2.2.2.2.2 g hg).1
          have ea : fX1_asked (fX1_given_n 12) 32 (nI g) (nI 1) 0 (x_u σ 30 1 0) = some (r, σ') := by
            unfold fX1_asked bX1_asked_13
            rw [if_neg (show ¬ (nI 1 : Int32) = 0 by decide), z_gi (n := 6) (by omega) (by decide), z_cl (by omega), e1, hb, z_p, if_neg (by omega), if_neg (by omega), if_neg (by omega), g1, z_b]
          rw [ea, z_b, z_b, if_neg c, if_neg z_10, g2, z_b]
          exact ⟨_, _, _, rfl, rfl, z_Rel_Q h q2 (by omega)⟩
