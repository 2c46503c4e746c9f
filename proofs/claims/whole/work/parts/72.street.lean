/-! ===== pure: city, a street ===== -/
def w_sD (s : x_S) : Option x_S := x_w (x_u s 40 3 ((s 40 3) + 1)) (fun t => some t)
def w_sC (i : Nat) (x : Int32) (s : x_S) : Option x_S := x_g (x_in (nI i) 7) (x_w (x_u s 42 (nI i).toNatClampNeg x) (fun t => x_v (fX4_readSign 59 t) w_sD))
def w_sB (i : Nat) (s : x_S) : Option x_S := x_b (fX4_readNumber 0 9 s) (w_sC i)
def w_sA (i : Nat) (x : Int32) (s : x_S) : Option x_S := x_g (x_in (nI i) 7) (x_w (x_u s 41 (nI i).toNatClampNeg x) (fun t => x_v (fX4_readSign 44 t) (w_sB i)))
theorem w_street0 {σ : x_S} {i : Nat} (h : σ 40 3 = nI i) (hi : i < 7) : fX4_readStreet 40 σ = x_v (fX4_readSign 114 σ) (fun s => x_b (fX4_readNumber 0 30 s) (w_sA i)) := by
  unfold fX4_readStreet
  rw [h, if_pos ((z_ltL (y := (7 : Int32)) 7 rfl (by omega) (by decide)).mpr hi)]
  rfl
def w_mB (N : Int32) (s : x_S) : Option (Int32 × x_S) := x_g (x_in ((1335 : Int32) + N) 1372) (x_w (x_u s 1 ((1335 : Int32) + N).toNatClampNeg (s 0 15)) (fun t => x_g (x_in (1324 : Int32) 1372) (x_w (x_u t 1 (1324 : Int32).toNatClampNeg ((t 1 (1324 : Int32).toNatClampNeg) + 1)) (fun u => x_b (fX8_sign 59 u) (fun r v => x_g (r &&& 1 = r) (some (r, v)))))))
def w_mA (N : Int32) (s : x_S) : Option (Int32 × x_S) := x_g (x_in ((1328 : Int32) + N) 1372) (x_w (x_u s 1 ((1328 : Int32) + N).toNatClampNeg (s 0 15)) (fun t => x_b (fX8_sign 44 t) (fun r u => if r = 0 then some (0, u) else x_b (fX8_readsNumber 0 9 u) (fun r v => if r = 0 then some (0, v) else w_mB N v))))
def w_ms (N : Int32) (τ : x_S) : Option (Int32 × x_S) := if N = 7 then (x_b (fX8_refuse 3 τ) (fun r v => x_g (r &&& 1 = r) (some (r, v)))) else x_b (fX8_readsNumber 0 30 (x_u τ 0 13 (τ 0 13 + 1))) (fun r s => if r = 0 then some (0, s) else w_mA N s)
theorem w_ms0 (τ : x_S) : fX8_readsStreet τ = w_ms (τ 1 1324) τ := rfl
theorem w_mstreet0 {τ : x_S} {i : Nat} (h : τ 1 1324 = nI i) (hi : i < 7) : fX8_readsStreet τ = x_b (fX8_readsNumber 0 30 (x_u τ 0 13 (τ 0 13 + 1))) (fun r s => if r = 0 then some (0, s) else w_mA (nI i) s) := by
  have e : ¬ nI i = (7 : Int32) := fun z => by have := (nI_eq (a := i) (b := 7) (by omega) (by decide)).mp z; omega
  rw [w_ms0, h]
  exact if_neg e
theorem w_sT {σ0 τ0 τ : x_S} {a b i : Nat} (hi : i < 7) : (∀ s, w_D σ0 τ0 τ a b s → ∃ t, w_sD s = some t ∧ w_D σ0 τ0 τ (a + 1) b t) ∧ (∀ x s, w_D σ0 τ0 τ a b s → ∃ t, w_sC i x s = some t ∧ w_D σ0 τ0 τ (a + 1) b t) ∧ (∀ s, w_D σ0 τ0 τ a b s → ∃ t, w_sB i s = some t ∧ w_D σ0 τ0 τ (a + 1) b t) ∧ (∀ x s, w_D σ0 τ0 τ a b s → ∃ t, w_sA i x s = some t ∧ w_D σ0 τ0 τ (a + 1) b t) := by
  have hD : ∀ s, w_D σ0 τ0 τ a b s → ∃ t, w_sD s = some t ∧ w_D σ0 τ0 τ (a + 1) b t := fun s hs => ⟨_, rfl, w_Dst hs⟩
  have hC : ∀ x s, w_D σ0 τ0 τ a b s → ∃ t, w_sC i x s = some t ∧ w_D σ0 τ0 τ (a + 1) b t := by
    intro x s hs
    unfold w_sC
    rw [z_gi hi (by decide), z_w]
    exact w_ov (w_Dsign (w_Dw hs (by decide) _ x) 59) hD
  have hB : ∀ s, w_D σ0 τ0 τ a b s → ∃ t, w_sB i s = some t ∧ w_D σ0 τ0 τ (a + 1) b t := fun s hs => w_ob (w_Dnum hs 0 9) hC
  refine ⟨hD, hC, hB, ?_⟩
  intro x s hs
  unfold w_sA
  rw [z_gi hi (by decide), z_w]
  exact w_ov (w_Dsign (w_Dw hs (by decide) _ x) 44) hB
/-- a sign that stands there -/
theorem w_skip {σ0 τ0 σ τ : x_S} {n p : Nat} (h : w_lv σ0 τ0 n p σ τ) (hp : p < n) {a : Int32} (ha : ¬ (-1 : Int32) = a) (he : τ 6 p = a) : ∃ σ', fX4_readSign a σ = some σ' ∧ (∀ c, c ≠ 13 → σ' c = σ c) ∧ w_lv σ0 τ0 n (p + 1) σ' (x_u τ 0 13 (τ 0 13 + 1)) := by
  have hn := h.1.2.2.1
  obtain ⟨σ', r, τ', s1, s2, s3, s4, s5⟩ := w_sign h ha
  have e : fX8_sign a τ = some (1, x_u τ 0 13 (τ 0 13 + 1)) := by
    unfold fX8_sign fX8_isLetter
    rw [h.1.2.1, h.2.2.2.2.1, if_neg (nI_ge hp (by omega)), z_gi (n := 120) (by omega) (by decide), z_cl (by omega), if_pos he, z_p, if_neg z_10, z_w]
  rw [e] at s2
  obtain ⟨rfl, rfl⟩ : (1 : Int32) = r ∧ x_u τ 0 13 (τ 0 13 + 1) = τ' := by cases s2; exact ⟨rfl, rfl⟩
  rcases s5 with ⟨-, -, l⟩ | ⟨z, -⟩
  · exact ⟨σ', s1, s3, l⟩
  · exact absurd z z_10
theorem w_street {σ0 τ0 σ τ : x_S} {n p : Nat} {w : z_V} (h : w_L σ0 τ0 n p w σ τ) (hp : p < n) (he : τ 6 p = 114) : ∃ σ' r τ', fX4_readStreet 40 σ = some σ' ∧ fX8_readsStreet τ = some (r, τ') ∧ ((r = 1 ∧ w 1 < 7 ∧ ∃ p' w', w' 1 = w 1 + 1 ∧ w' 2 = w 2 ∧ w_L σ0 τ0 n p' w' σ' τ') ∨ (r = 0 ∧ ∃ a b, w_D σ0 τ0 τ' a b σ' ∧ a ≤ 7 ∧ b ≤ 6)) := by
  obtain ⟨hl, hf, hS, hM, h400, hok, hz⟩ := h
  have h7 := hok.2.1
  have h6 := hok.2.2.1
  have e3 : σ 40 3 = nI (w 1) := hS.2.1
  have e5 : σ 40 5 = nI (w 2) := hS.2.2.1
  have m1 : τ 1 1324 = nI (w 1) := hM.2.1
  by_cases c7 : w 1 < 7
  · obtain ⟨σ1, s1, c1, l1⟩ := w_skip hl hp (by decide) he
    obtain ⟨x, σ2, r2, τ2, s2, t2, c2, d2, hh2⟩ := w_number l1 (lo := 0) (hi := 30) (by decide) (by decide)
    have s2 : fX4_readNumber 0 30 σ1 = some (x, σ2) := s2
    have t2 : fX8_readsNumber 0 30 (x_u τ 0 13 (τ 0 13 + 1)) = some (r2, τ2) := t2
    have g2 : ∀ c, c ≠ 13 → σ2 c = σ c := fun c hc => (c2 c hc).trans (c1 c hc)
    have k2 : ∀ c, c ≠ 0 → τ2 c = τ c := fun c hc => (d2 c hc).trans (z_uk hc)
    have f2 : w_fr σ0 τ0 σ2 τ2 := w_fr_d (w_fr_c hf (fun c hc _ => g2 c hc)) (fun c hc _ => k2 c hc) (fun j _ => by rw [k2 1 (by decide)])
    have D2 : ∀ {s t : x_S}, w_ft σ0 τ0 s t → w_fr σ0 τ0 s t → (s 40 = σ 40) → w_D σ0 τ0 t (w 1) (w 2) s := fun a b c => ⟨a, b, by rw [c]; exact e3, by rw [c]; exact e5⟩
    rw [w_street0 e3 c7, w_mstreet0 m1 c7, s1, z_v, s2, z_b, t2, z_b]
    rcases hh2 with ⟨rfl, k, p2, -, kk, rfl, e15, -, l2⟩ | ⟨rfl, l2⟩
    · rw [if_neg z_10]
      unfold w_sA w_mA
      rw [show (1328 : Int32) + nI (w 1) = nI (1328 + w 1) from nI_add 1328 (w 1), z_gi (n := 7) c7 (by decide), z_gi (n := 1372) (by omega) (by decide), z_w, z_w, z_cl (show w 1 < 65536 by omega), z_cl (show 1328 + w 1 < 65536 by omega), e15]
      have l2' : w_lv σ0 τ0 n p2 (x_u σ2 41 (w 1) (nI k)) (x_u τ2 1 (1328 + w 1) (nI k)) := w_lv_c l2 (z_uk (by decide)) (z_uk (by decide)) (z_uk (by decide)) (z_uk (by decide))
      have f2' : w_fr σ0 τ0 (x_u σ2 41 (w 1) (nI k)) (x_u τ2 1 (1328 + w 1) (nI k)) := w_fr_d (w_fr_c f2 (fun c _ hc => z_uk (by omega))) (fun c _ hc => z_uk hc) (fun j hj => z_ui (by omega))
      obtain ⟨σ3, r3, τ3, s3, t3, c3, d3, hh3⟩ := w_sign l2' (a := 44) (by decide)
      have f3 : w_fr σ0 τ0 σ3 τ3 := w_fr_d (w_fr_c f2' (fun c hc _ => c3 c hc)) (fun c hc _ => d3 c hc) (fun j _ => by rw [d3 1 (by decide)])
      have q3 : σ3 40 = σ 40 := by rw [c3 40 (by decide), z_uk (by decide), g2 40 (by decide)]
      rw [s3, z_v, t3, z_b]
      rcases hh3 with ⟨rfl, hp3, l3⟩ | ⟨rfl, l3⟩
      · rw [if_neg z_10]
        unfold w_sB
        obtain ⟨y, σ4, r4, τ4, s4, t4, c4, d4, hh4⟩ := w_number l3 (lo := 0) (hi := 9) (by decide) (by decide)
        have s4 : fX4_readNumber 0 9 σ3 = some (y, σ4) := s4
        have t4 : fX8_readsNumber 0 9 τ3 = some (r4, τ4) := t4
        have f4 : w_fr σ0 τ0 σ4 τ4 := w_fr_d (w_fr_c f3 (fun c hc _ => c4 c hc)) (fun c hc _ => d4 c hc) (fun j _ => by rw [d4 1 (by decide)])
        have q4 : σ4 40 = σ 40 := (c4 40 (by decide)).trans q3
        rw [s4, z_b, t4, z_b]
        rcases hh4 with ⟨rfl, k', p4, -, kk', rfl, e15', -, l4⟩ | ⟨rfl, l4⟩
        · rw [if_neg z_10]
          unfold w_sC w_mB
          have v1 : ∀ j, x_u τ4 1 (1335 + w 1) (nI k') 1 j = if j = 1335 + w 1 then nI k' else if j = 1328 + w 1 then nI k else τ 1 j := by
            intro j
            rw [z_uu, z_upd, d4 1 (by decide), d3 1 (by decide), z_uu, z_upd, k2 1 (by decide)]
          rw [show (1335 : Int32) + nI (w 1) = nI (1335 + w 1) from nI_add 1335 (w 1), z_gi (n := 7) c7 (by decide), z_gi (n := 1372) (by omega) (by decide), z_w, z_w, z_cl (show w 1 < 65536 by omega), z_cl (show 1335 + w 1 < 65536 by omega), e15', z_g (show x_in (1324 : Int32) 1372 by decide), z_w, z_c1324, v1 1324, if_neg (by omega), if_neg (by omega), m1, nI_1]
          have l4' : w_lv σ0 τ0 n p4 (x_u σ4 42 (w 1) (nI k')) (x_u (x_u τ4 1 (1335 + w 1) (nI k')) 1 1324 (nI (w 1 + 1))) := w_lv_c l4 (z_uk (by decide)) (z_uk (by decide)) ((z_uk (by decide)).trans (z_uk (by decide))) ((z_uk (by decide)).trans (z_uk (by decide)))
          have f4' : w_fr σ0 τ0 (x_u σ4 42 (w 1) (nI k')) (x_u (x_u τ4 1 (1335 + w 1) (nI k')) 1 1324 (nI (w 1 + 1))) := w_fr_d (w_fr_c f4 (fun c _ hc => z_uk (by omega))) (fun c _ hc => (z_uk hc).trans (z_uk hc)) (fun j hj => (z_ui (by omega)).trans (z_ui (by omega)))
          obtain ⟨σ5, r5, τ5, s5, t5, c5, d5, hh5⟩ := w_sign l4' (a := 59) (by decide)
          have f5 : w_fr σ0 τ0 σ5 τ5 := w_fr_d (w_fr_c f4' (fun c hc _ => c5 c hc)) (fun c hc _ => d5 c hc) (fun j _ => by rw [d5 1 (by decide)])
          have q5 : σ5 40 = σ 40 := by rw [c5 40 (by decide), z_uk (by decide), q4]
          rw [s5, z_v, t5, z_b]
          rcases hh5 with ⟨rfl, hp5, l5⟩ | ⟨rfl, l5⟩
          · unfold w_sD
            have n40 : ∀ j, x_u σ5 40 3 (nI (w 1 + 1)) 40 j = if j = 3 then nI (w 1 + 1) else σ 40 j := by
              intro j
              rw [z_uu, z_upd, q5]
            have n41 : ∀ j, x_u σ5 40 3 (nI (w 1 + 1)) 41 j = if j = w 1 then nI k else σ 41 j := by
              intro j
              rw [z_uk (by decide), c5 41 (by decide), z_uk (by decide), c4 41 (by decide), c3 41 (by decide), z_uu, z_upd, g2 41 (by decide)]
            have n42 : ∀ j, x_u σ5 40 3 (nI (w 1 + 1)) 42 j = if j = w 1 then nI k' else σ 42 j := by
              intro j
              rw [z_uk (by decide), c5 42 (by decide), z_uu, z_upd, c4 42 (by decide), c3 42 (by decide), z_uk (by decide), g2 42 (by decide)]
            have nS : ∀ c, 43 ≤ c → c ≤ 47 → x_u σ5 40 3 (nI (w 1 + 1)) c = σ c := by
              intro c hc1 hc2
              rw [z_uk (by omega), c5 c (by omega), z_uk (by omega), c4 c (by omega), c3 c (by omega), z_uk (by omega), g2 c (by omega)]
            have n1 : ∀ j, τ5 1 j = if j = 1324 then nI (w 1 + 1) else if j = 1335 + w 1 then nI k' else if j = 1328 + w 1 then nI k else τ 1 j := by
              intro j
              rw [d5 1 (by decide), z_uu, z_upd, v1]
            have eo : ∀ j, j ≠ 1 → j ≠ 5 + w 1 → j ≠ 12 + w 1 → (fun j => if j = 1 then w 1 + 1 else if j = 5 + w 1 then k else if j = 12 + w 1 then k' else w j) j = w j := fun j j1 j2 j3 => by
              show (if j = 1 then w 1 + 1 else if j = 5 + w 1 then k else if j = 12 + w 1 then k' else w j) = w j
              rw [if_neg j1, if_neg j2, if_neg j3]
            have ea : (fun j => if j = 1 then w 1 + 1 else if j = 5 + w 1 then k else if j = 12 + w 1 then k' else w j) (5 + w 1) = k := by
              show (if 5 + w 1 = 1 then w 1 + 1 else if 5 + w 1 = 5 + w 1 then k else if 5 + w 1 = 12 + w 1 then k' else w (5 + w 1)) = k
              rw [if_neg (by omega), if_pos rfl]
            have eb : (fun j => if j = 1 then w 1 + 1 else if j = 5 + w 1 then k else if j = 12 + w 1 then k' else w j) (12 + w 1) = k' := by
              show (if 12 + w 1 = 1 then w 1 + 1 else if 12 + w 1 = 5 + w 1 then k else if 12 + w 1 = 12 + w 1 then k' else w (12 + w 1)) = k'
              rw [if_neg (by omega), if_neg (by omega), if_pos rfl]
            have e1 : (fun j => if j = 1 then w 1 + 1 else if j = 5 + w 1 then k else if j = 12 + w 1 then k' else w j) 1 = w 1 + 1 := rfl
            generalize (fun j => if j = 1 then w 1 + 1 else if j = 5 + w 1 then k else if j = 12 + w 1 then k' else w j) = w' at eo ea eb e1
            rw [z_w, show σ5 40 3 + 1 = nI (w 1 + 1) by rw [q5, e3, nI_1]]
            refine ⟨_, 1, τ5, rfl, z_g (by decide) _, Or.inl ⟨rfl, c7, p4 + 1, w', e1, eo 2 (by decide) (by omega) (by omega), ?_⟩⟩
            have hv3 : w' 2 = w 2 := eo 2 (by decide) (by omega) (by omega)
            refine ⟨w_lv_c l5 (z_uk (by decide)) (z_uk (by decide)) rfl rfl, w_fr_c f5 (fun c _ hc => z_uk (by omega)), ⟨?_, ?_, ?_, ?_, ?_, fun s hs => ⟨?_, ?_⟩, fun g hg => ?_⟩, ⟨?_, ?_, ?_, ?_, ?_, fun s hs => ⟨?_, ?_⟩, fun g hg => ?_⟩, ?_, ⟨?_, by omega, by omega, ?_, ?_, fun s hs => ?_, fun g hg => ?_⟩, fun g hg => ?_⟩
            · rw [n40, if_neg (by decide), eo 0 (by decide) (by omega) (by omega)]; exact hS.1
            · rw [n40, if_pos rfl, e1]
            · rw [n40, if_neg (by decide), hv3]; exact e5
            · rw [n40, if_neg (by decide), eo 3 (by decide) (by omega) (by omega)]; exact hS.2.2.2.1
            · rw [n40, if_neg (by decide), eo 4 (by decide) (by omega) (by omega)]; exact hS.2.2.2.2.1
            · show x_u σ5 40 3 (nI (w 1 + 1)) 41 s = _
              rw [n41]
              by_cases q : s = w 1
              · rw [if_pos q, q, ea]
              · rw [if_neg q, eo (5 + s) (by omega) (by omega) (by omega)]; exact (hS.2.2.2.2.2.1 s (by omega)).1
            · show x_u σ5 40 3 (nI (w 1 + 1)) 42 s = _
              rw [n42]
              by_cases q : s = w 1
              · rw [if_pos q, q, eb]
              · rw [if_neg q, eo (12 + s) (by omega) (by omega) (by omega)]; exact (hS.2.2.2.2.2.1 s (by omega)).2
            · rw [hv3] at hg
              obtain ⟨u1, u2, u3, u4, u5⟩ := hS.2.2.2.2.2.2 g hg
              rw [nS 43 (by decide) (by decide), nS 44 (by decide) (by decide), nS 45 (by decide) (by decide), nS 46 (by decide) (by decide), nS 47 (by decide) (by decide), eo (19 + g) (by omega) (by omega) (by omega), eo (25 + g) (by omega) (by omega) (by omega), eo (31 + g) (by omega) (by omega) (by omega), eo (37 + g) (by omega) (by omega) (by omega), eo (43 + g) (by omega) (by omega) (by omega)]
              exact ⟨u1, u2, u3, u4, u5⟩
            · rw [n1, if_neg (by decide), if_neg (by omega), if_neg (by omega), eo 0 (by decide) (by omega) (by omega)]; exact hM.1
            · rw [n1, if_pos rfl, e1]
            · rw [n1, if_neg (by decide), if_neg (by omega), if_neg (by omega), hv3]; exact hM.2.2.1
            · rw [n1, if_neg (by decide), if_neg (by omega), if_neg (by omega), eo 3 (by decide) (by omega) (by omega)]; exact hM.2.2.2.1
            · rw [n1, if_neg (by decide), if_neg (by omega), if_neg (by omega), eo 4 (by decide) (by omega) (by omega)]; exact hM.2.2.2.2.1
            · rw [n1, if_neg (by omega), if_neg (by omega)]
              by_cases q : s = w 1
              · rw [if_pos (by omega), q, ea]
              · rw [if_neg (by omega), eo (5 + s) (by omega) (by omega) (by omega)]; exact (hM.2.2.2.2.2.1 s (by omega)).1
            · rw [n1, if_neg (by omega)]
              by_cases q : s = w 1
              · rw [if_pos (by omega), q, eb]
              · rw [if_neg (by omega), if_neg (by omega), eo (12 + s) (by omega) (by omega) (by omega)]; exact (hM.2.2.2.2.2.1 s (by omega)).2
            · rw [hv3] at hg
              have u := hM.2.2.2.2.2.2 g hg
              rw [n1, if_neg (by omega), if_neg (by omega), if_neg (by omega), n1, if_neg (by omega), if_neg (by omega), if_neg (by omega), n1, if_neg (by omega), if_neg (by omega), if_neg (by omega), n1, if_neg (by omega), if_neg (by omega), if_neg (by omega), n1, if_neg (by omega), if_neg (by omega), if_neg (by omega), eo (19 + g) (by omega) (by omega) (by omega), eo (25 + g) (by omega) (by omega) (by omega), eo (31 + g) (by omega) (by omega) (by omega), eo (37 + g) (by omega) (by omega) (by omega), eo (43 + g) (by omega) (by omega) (by omega)]
              exact u
            · rw [n40, if_neg (by decide)]; exact h400
            · rw [eo 0 (by decide) (by omega) (by omega)]; exact hok.1
            · rw [eo 3 (by decide) (by omega) (by omega)]; exact hok.2.2.2.1
            · rw [eo 4 (by decide) (by omega) (by omega)]; exact hok.2.2.2.2.1
            · by_cases q : s = w 1
              · rw [q, ea, eb]; exact ⟨kk, kk'⟩
              · rw [eo (5 + s) (by omega) (by omega) (by omega), eo (12 + s) (by omega) (by omega) (by omega)]; exact hok.2.2.2.2.2.1 s (by omega)
            · rw [hv3] at hg
              rw [eo (19 + g) (by omega) (by omega) (by omega), eo (25 + g) (by omega) (by omega) (by omega), eo (31 + g) (by omega) (by omega) (by omega), eo (37 + g) (by omega) (by omega) (by omega)]
              exact hok.2.2.2.2.2.2 g hg
            · rw [n1, if_neg (by omega), if_neg (by omega), if_neg (by omega)]; exact hz g hg
          · obtain ⟨t, a1, a2⟩ := (w_sT (σ0 := σ0) (τ0 := τ0) (τ := τ5) (a := w 1) (b := w 2) c7).1 σ5 (D2 l5 f5 q5)
            exact ⟨t, 0, τ5, a1, z_g (by decide) _, Or.inr ⟨rfl, _, _, a2, by omega, h6⟩⟩
        · rw [if_pos rfl]
          obtain ⟨t, a1, a2⟩ := (w_sT (σ0 := σ0) (τ0 := τ0) (τ := τ4) (a := w 1) (b := w 2) c7).2.1 y σ4 (D2 l4 f4 q4)
          exact ⟨t, 0, τ4, a1, rfl, Or.inr ⟨rfl, _, _, a2, by omega, h6⟩⟩
      · rw [if_pos rfl]
        obtain ⟨t, a1, a2⟩ := (w_sT (σ0 := σ0) (τ0 := τ0) (τ := τ3) (a := w 1) (b := w 2) c7).2.2.1 σ3 (D2 l3 f3 q3)
        exact ⟨t, 0, τ3, a1, rfl, Or.inr ⟨rfl, _, _, a2, by omega, h6⟩⟩
    · rw [if_pos rfl]
      obtain ⟨t, a1, a2⟩ := (w_sT (σ0 := σ0) (τ0 := τ0) (τ := τ2) (a := w 1) (b := w 2) c7).2.2.2 x σ2 (D2 l2 f2 (g2 40 (by decide)))
      exact ⟨t, 0, τ2, a1, rfl, Or.inr ⟨rfl, _, _, a2, by omega, h6⟩⟩
  · have ew : w 1 = 7 := by omega
    obtain ⟨ht, hpn, h4, h5, g5, h2, hj⟩ := hl
    obtain ⟨σ1, s1, s2, s3, s4, s5, s6, s7⟩ := w_failAt h4 (σ 13 5) 3
    refine ⟨σ1, 0, x_u τ 0 14 3, ?_, ?_, Or.inr ⟨rfl, w 1, w 2, ⟨⟨3, nI p, by decide, s3, s4, s5.trans h5, z_us _ _ _ _, (z_ui (by decide)).trans g5, fun j j1 j2 j3 => (z_ui j2).trans (hj j j1 j2 j3)⟩, w_fr_d (w_fr_c hf (fun c hc _ => s2 c hc)) (fun c hc _ => z_uk hc) (fun j _ => by rw [z_uk (by decide)]), by rw [s2 40 (by decide)]; exact e3, by rw [s2 40 (by decide)]; exact e5⟩, h7, h6⟩⟩
    · unfold fX4_readStreet fX4_fail
      rw [e3, ew, if_neg (by decide), s1]
      rfl
    · rw [w_ms0, m1, ew]
      unfold w_ms
      rw [if_pos (by decide), w_refuse, z_b]
      exact z_g (by decide) _
