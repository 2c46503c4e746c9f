/-! ===== pure: city, a gesture ===== -/
def w_gF (i : Nat) (s : x_S) : Option x_S := x_g (x_in (nI i) 6) (x_w (x_u s 47 (nI i).toNatClampNeg 0) (fun t => x_w (x_u t 40 5 ((t 40 5) + 1)) (fun u => some u)))
def w_gE (i : Nat) (x : Int32) (s : x_S) : Option x_S := x_g (x_in (nI i) 6) (x_w (x_u s 46 (nI i).toNatClampNeg x) (fun t => x_v (fX4_readSign 59 t) (w_gF i)))
def w_gD (i : Nat) (s : x_S) : Option x_S := x_b (fX4_readNumber 1 9 s) (w_gE i)
def w_gC (i : Nat) (x : Int32) (s : x_S) : Option x_S := x_g (x_in (nI i) 6) (x_w (x_u s 45 (nI i).toNatClampNeg x) (fun t => x_v (fX4_readSign 44 t) (w_gD i)))
def w_gB (i : Nat) (s : x_S) : Option x_S := x_b (fX4_readNumber 0 3 s) (w_gC i)
def w_gA (i : Nat) (x : Int32) (s : x_S) : Option x_S := x_g (x_in (nI i) 6) (x_w (x_u s 44 (nI i).toNatClampNeg x) (fun t => x_v (fX4_readSign 44 t) (w_gB i)))
theorem w_ges0 {σ : x_S} {i kd : Nat} {y : Int32} (h : σ 40 5 = nI i) (hi : i < 6) (hy : fX4_next σ = some y) (hk : fX3_ofLetter y σ = some (nI kd)) : fX4_readGesture 40 σ = x_b (fX4_readNumber 1 30 (x_u (x_u σ 43 i (nI kd)) 13 5 (σ 13 5 + 1))) (w_gA i) := by
  unfold fX4_readGesture
  rw [h, if_pos ((z_ltL (y := (6 : Int32)) 6 rfl (by omega) (by decide)).mpr hi), hy, z_p, hk, z_p, z_gi hi (by decide), z_w, z_w]
  show x_b (fX4_readNumber 1 30 (x_u (x_u σ 43 (nI i).toNatClampNeg (nI kd)) 13 5 (x_u σ 43 (nI i).toNatClampNeg (nI kd) 13 5 + 1))) (w_gA i) = _
  rw [z_cl (by omega), z_uk (show (13 : Nat) ≠ 43 by decide)]
def w_hC (N : Int32) (s : x_S) : Option (Int32 × x_S) := x_g (x_in ((1360 : Int32) + N) 1372) (x_w (x_u s 1 ((1360 : Int32) + N).toNatClampNeg (s 0 15)) (fun t => x_g (x_in (1325 : Int32) 1372) (x_w (x_u t 1 (1325 : Int32).toNatClampNeg ((t 1 (1325 : Int32).toNatClampNeg) + 1)) (fun u => x_b (fX8_sign 59 u) (fun r v => x_g (r &&& 1 = r) (some (r, v)))))))
def w_hB (N : Int32) (s : x_S) : Option (Int32 × x_S) := x_g (x_in ((1354 : Int32) + N) 1372) (x_w (x_u s 1 ((1354 : Int32) + N).toNatClampNeg (s 0 15)) (fun t => x_b (fX8_sign 44 t) (fun r u => if r = 0 then some (0, u) else x_b (fX8_readsNumber 1 9 u) (fun r v => if r = 0 then some (0, v) else w_hC N v))))
def w_hA (N : Int32) (s : x_S) : Option (Int32 × x_S) := x_g (x_in ((1348 : Int32) + N) 1372) (x_w (x_u s 1 ((1348 : Int32) + N).toNatClampNeg (s 0 15)) (fun t => x_b (fX8_sign 44 t) (fun r u => if r = 0 then some (0, u) else x_b (fX8_readsNumber 0 3 u) (fun r v => if r = 0 then some (0, v) else w_hB N v))))
def w_hs (N : Int32) (τ : x_S) : Option (Int32 × x_S) := if N = 6 then (x_b (fX8_refuse 3 τ) (fun r v => x_g (r &&& 1 = r) (some (r, v)))) else x_g (x_in (τ 0 13) 120) (x_p (fX8_kindOfLetter (τ 6 (τ 0 13).toNatClampNeg) τ) (fun x => x_g (x_in ((1342 : Int32) + N) 1372) (x_w (x_u τ 1 ((1342 : Int32) + N).toNatClampNeg x) (fun s => x_w (x_u s 0 13 (s 0 13 + 1)) (fun t => x_b (fX8_readsNumber 1 30 t) (fun r s => if r = 0 then some (0, s) else w_hA N s))))))
theorem w_hs0 (τ : x_S) : fX8_readsGesture τ = w_hs (τ 1 1325) τ := rfl
theorem w_mges0 {τ : x_S} {i kd p : Nat} (h : τ 1 1325 = nI i) (hi : i < 6) (h13 : τ 0 13 = nI p) (hp : p < 120) (hk : fX8_kindOfLetter (τ 6 p) τ = some (nI kd)) : fX8_readsGesture τ = x_b (fX8_readsNumber 1 30 (x_u (x_u τ 1 (1342 + i) (nI kd)) 0 13 (nI (p + 1)))) (fun r s => if r = 0 then some (0, s) else w_hA (nI i) s) := by
  have e : ¬ nI i = (6 : Int32) := fun z => by have := (nI_eq (a := i) (b := 6) (by omega) (by decide)).mp z; omega
  rw [w_hs0, h]
  unfold w_hs
  rw [if_neg e, h13, z_gi (n := 120) hp (by decide), z_cl (show p < 65536 by omega), hk, z_p, show (1342 : Int32) + nI i = nI (1342 + i) from nI_add 1342 i, z_gi (n := 1372) (by omega) (by decide), z_w, z_w, z_cl (by omega), z_uk (show (0 : Nat) ≠ 1 by decide), h13, nI_1]
theorem w_gT {σ0 τ0 τ : x_S} {a b i : Nat} (hi : i < 6) : (∀ s, w_D σ0 τ0 τ a b s → ∃ t, w_gF i s = some t ∧ w_D σ0 τ0 τ a (b + 1) t) ∧ (∀ x s, w_D σ0 τ0 τ a b s → ∃ t, w_gE i x s = some t ∧ w_D σ0 τ0 τ a (b + 1) t) ∧ (∀ s, w_D σ0 τ0 τ a b s → ∃ t, w_gD i s = some t ∧ w_D σ0 τ0 τ a (b + 1) t) ∧ (∀ x s, w_D σ0 τ0 τ a b s → ∃ t, w_gC i x s = some t ∧ w_D σ0 τ0 τ a (b + 1) t) ∧ (∀ s, w_D σ0 τ0 τ a b s → ∃ t, w_gB i s = some t ∧ w_D σ0 τ0 τ a (b + 1) t) ∧ (∀ x s, w_D σ0 τ0 τ a b s → ∃ t, w_gA i x s = some t ∧ w_D σ0 τ0 τ a (b + 1) t) := by
  have hF : ∀ s, w_D σ0 τ0 τ a b s → ∃ t, w_gF i s = some t ∧ w_D σ0 τ0 τ a (b + 1) t := by
    intro s hs
    unfold w_gF
    rw [z_gi hi (by decide), z_w]
    exact ⟨_, rfl, w_Dge (w_Dw hs (by decide) _ 0)⟩
  have hE : ∀ x s, w_D σ0 τ0 τ a b s → ∃ t, w_gE i x s = some t ∧ w_D σ0 τ0 τ a (b + 1) t := by
    intro x s hs
    unfold w_gE
    rw [z_gi hi (by decide), z_w]
    exact w_ov (w_Dsign (w_Dw hs (by decide) _ x) 59) hF
  have hD : ∀ s, w_D σ0 τ0 τ a b s → ∃ t, w_gD i s = some t ∧ w_D σ0 τ0 τ a (b + 1) t := fun s hs => w_ob (w_Dnum hs 1 9) hE
  have hC : ∀ x s, w_D σ0 τ0 τ a b s → ∃ t, w_gC i x s = some t ∧ w_D σ0 τ0 τ a (b + 1) t := by
    intro x s hs
    unfold w_gC
    rw [z_gi hi (by decide), z_w]
    exact w_ov (w_Dsign (w_Dw hs (by decide) _ x) 44) hD
  have hB : ∀ s, w_D σ0 τ0 τ a b s → ∃ t, w_gB i s = some t ∧ w_D σ0 τ0 τ a (b + 1) t := fun s hs => w_ob (w_Dnum hs 0 3) hC
  refine ⟨hF, hE, hD, hC, hB, ?_⟩
  intro x s hs
  unfold w_gA
  rw [z_gi hi (by decide), z_w]
  exact w_ov (w_Dsign (w_Dw hs (by decide) _ x) 44) hB
theorem w_adv {σ0 τ0 σ τ : x_S} {n p : Nat} (h : w_lv σ0 τ0 n p σ τ) (hp : p < n) : w_lv σ0 τ0 n (p + 1) (x_u σ 13 5 (σ 13 5 + 1)) (x_u τ 0 13 (nI (p + 1))) := by
  obtain ⟨ht, -, h4, h5, g5, h2, hj⟩ := h
  refine ⟨w_tp_c ht (z_ui (by decide)) (z_uk (by decide)) (z_ui (by decide)) (z_uk (by decide)), hp, ?_, ?_, z_us _ _ _ _, ?_, fun j j1 j2 j3 => ?_⟩
  · rw [z_ui (by decide)]; exact h4
  · rw [z_us, h5, nI_1]
  · rw [z_ui (by decide)]; exact h2
  · rw [z_ui j1]; exact hj j j1 j2 j3
theorem w_kind (x : Int32) (σ τ : x_S) : ∃ kd, kd ≤ 5 ∧ fX3_ofLetter x σ = some (nI kd) ∧ fX8_kindOfLetter x τ = some (nI kd) := by
  unfold fX3_ofLetter fX8_kindOfLetter
  by_cases c1 : x = 98
  · subst c1; exact ⟨3, by decide, rfl, rfl⟩
  · by_cases c2 : x = 107
    · subst c2; exact ⟨4, by decide, rfl, rfl⟩
    · by_cases c3 : x = 110
      · subst c3; exact ⟨2, by decide, rfl, rfl⟩
      · by_cases c4 : x = 115
        · subst c4; exact ⟨5, by decide, rfl, rfl⟩
        · by_cases c5 : x = 119
          · subst c5; exact ⟨1, by decide, rfl, rfl⟩
          · rw [if_neg c1, if_neg c2, if_neg c3, if_neg c4, if_neg c5, if_neg c5, if_neg c3, if_neg c1, if_neg c2, if_neg c4]
            exact ⟨0, by decide, rfl, rfl⟩
theorem w_gesture {σ0 τ0 σ τ : x_S} {n p kd : Nat} {w : z_V} (h : w_L σ0 τ0 n p w σ τ) (hp : p < n) (hk1 : 1 ≤ kd) (hk5 : kd ≤ 5) (hkS : ∀ s, fX3_ofLetter (τ 6 p) s = some (nI kd)) (hkM : ∀ s, fX8_kindOfLetter (τ 6 p) s = some (nI kd)) : ∃ σ' r τ', fX4_readGesture 40 σ = some σ' ∧ fX8_readsGesture τ = some (r, τ') ∧ ((r = 1 ∧ w 2 < 6 ∧ ∃ p' w', w' 1 = w 1 ∧ w' 2 = w 2 + 1 ∧ w_L σ0 τ0 n p' w' σ' τ') ∨ (r = 0 ∧ ∃ a b, w_D σ0 τ0 τ' a b σ' ∧ a ≤ 7 ∧ b ≤ 6)) := by
  obtain ⟨hl, hf, hS, hM, h400, hok, hz⟩ := h
  have h7 := hok.2.1
  have h6 := hok.2.2.1
  have e3 : σ 40 3 = nI (w 1) := hS.2.1
  have e5 : σ 40 5 = nI (w 2) := hS.2.2.1
  have m1 : τ 1 1325 = nI (w 2) := hM.2.2.1
  have hn := hl.1.2.2.1
  have hx : fX4_next σ = some (τ 6 p) := by rw [w_next hn hl.1.1 hl.2.2.2.1 (by omega), if_pos hp, hl.1.2.2.2 p hp]
  by_cases c6 : w 2 < 6
  · have l0 : w_lv σ0 τ0 n p (x_u σ 43 (w 2) (nI kd)) (x_u τ 1 (1342 + w 2) (nI kd)) := w_lv_c hl (z_uk (by decide)) (z_uk (by decide)) (z_uk (by decide)) (z_uk (by decide))
    have l1 := w_adv l0 hp
    rw [show x_u σ 43 (w 2) (nI kd) 13 = σ 13 from z_uk (by decide)] at l1
    obtain ⟨x, σ2, r2, τ2, s2, t2, c2, d2, hh2⟩ := w_number l1 (lo := 1) (hi := 30) (by decide) (by decide)
    have s2 : fX4_readNumber 1 30 (x_u (x_u σ 43 (w 2) (nI kd)) 13 5 (σ 13 5 + 1)) = some (x, σ2) := s2
    have t2 : fX8_readsNumber 1 30 (x_u (x_u τ 1 (1342 + w 2) (nI kd)) 0 13 (nI (p + 1))) = some (r2, τ2) := t2
    have g2 : ∀ c, c ≠ 13 → c ≠ 43 → σ2 c = σ c := fun c hc hd => (c2 c hc).trans ((z_uk hc).trans (z_uk hd))
    have g43 : ∀ j, σ2 43 j = if j = w 2 then nI kd else σ 43 j := fun j => by rw [c2 43 (by decide), z_uk (by decide), z_uu, z_upd]
    have k1 : ∀ j, τ2 1 j = if j = 1342 + w 2 then nI kd else τ 1 j := fun j => by rw [d2 1 (by decide), z_uk (by decide), z_uu, z_upd]
    have k2 : ∀ c, c ≠ 0 → c ≠ 1 → τ2 c = τ c := fun c hc hd => (d2 c hc).trans ((z_uk hc).trans (z_uk hd))
    have f2 : w_fr σ0 τ0 σ2 τ2 := w_fr_d (w_fr_c hf (fun c hc hd => g2 c hc (by omega))) (fun c hc hd => k2 c hc hd) (fun j hj => by rw [k1, if_neg (by omega)])
    have D2 : ∀ {s t : x_S}, w_ft σ0 τ0 s t → w_fr σ0 τ0 s t → (s 40 = σ 40) → w_D σ0 τ0 t (w 1) (w 2) s := fun a b c => ⟨a, b, by rw [c]; exact e3, by rw [c]; exact e5⟩
    rw [w_ges0 e5 c6 hx (hkS σ), w_mges0 m1 c6 hl.2.2.2.2.1 (by omega) (hkM τ), s2, z_b, t2, z_b]
    rcases hh2 with ⟨rfl, k, p2, kl, kk, rfl, e15, -, l2⟩ | ⟨rfl, l2⟩
    · rw [if_neg z_10]
      unfold w_gA w_hA
      rw [show (1348 : Int32) + nI (w 2) = nI (1348 + w 2) from nI_add 1348 (w 2), z_gi (n := 6) c6 (by decide), z_gi (n := 1372) (by omega) (by decide), z_w, z_w, z_cl (show w 2 < 65536 by omega), z_cl (show 1348 + w 2 < 65536 by omega), e15]
      have l2' : w_lv σ0 τ0 n p2 (x_u σ2 44 (w 2) (nI k)) (x_u τ2 1 (1348 + w 2) (nI k)) := w_lv_c l2 (z_uk (by decide)) (z_uk (by decide)) (z_uk (by decide)) (z_uk (by decide))
      have f2' : w_fr σ0 τ0 (x_u σ2 44 (w 2) (nI k)) (x_u τ2 1 (1348 + w 2) (nI k)) := w_fr_d (w_fr_c f2 (fun c _ hc => z_uk (by omega))) (fun c _ hc => z_uk hc) (fun j hj => z_ui (by omega))
      obtain ⟨σ3, r3, τ3, s3, t3, c3, d3, hh3⟩ := w_sign l2' (a := 44) (by decide)
      have f3 : w_fr σ0 τ0 σ3 τ3 := w_fr_d (w_fr_c f2' (fun c hc _ => c3 c hc)) (fun c hc _ => d3 c hc) (fun j _ => by rw [d3 1 (by decide)])
      have q3 : σ3 40 = σ 40 := by rw [c3 40 (by decide), z_uk (by decide), g2 40 (by decide) (by decide)]
      rw [s3, z_v, t3, z_b]
      rcases hh3 with ⟨rfl, hp3, l3⟩ | ⟨rfl, l3⟩
      · rw [if_neg z_10]
        unfold w_gB
        obtain ⟨y, σ4, r4, τ4, s4, t4, c4, d4, hh4⟩ := w_number l3 (lo := 0) (hi := 3) (by decide) (by decide)
        have s4 : fX4_readNumber 0 3 σ3 = some (y, σ4) := s4
        have t4 : fX8_readsNumber 0 3 τ3 = some (r4, τ4) := t4
        have f4 : w_fr σ0 τ0 σ4 τ4 := w_fr_d (w_fr_c f3 (fun c hc _ => c4 c hc)) (fun c hc _ => d4 c hc) (fun j _ => by rw [d4 1 (by decide)])
        have q4 : σ4 40 = σ 40 := (c4 40 (by decide)).trans q3
        rw [s4, z_b, t4, z_b]
        rcases hh4 with ⟨rfl, k', p4, -, kk', rfl, e15', -, l4⟩ | ⟨rfl, l4⟩
        · rw [if_neg z_10]
          unfold w_gC w_hB
          have v1 : ∀ j, τ4 1 j = if j = 1348 + w 2 then nI k else if j = 1342 + w 2 then nI kd else τ 1 j := by
            intro j
            rw [d4 1 (by decide), d3 1 (by decide), z_uu, z_upd, k1]
          rw [show (1354 : Int32) + nI (w 2) = nI (1354 + w 2) from nI_add 1354 (w 2), z_gi (n := 6) c6 (by decide), z_gi (n := 1372) (by omega) (by decide), z_w, z_w, z_cl (show w 2 < 65536 by omega), z_cl (show 1354 + w 2 < 65536 by omega), e15']
          have l4' : w_lv σ0 τ0 n p4 (x_u σ4 45 (w 2) (nI k')) (x_u τ4 1 (1354 + w 2) (nI k')) := w_lv_c l4 (z_uk (by decide)) (z_uk (by decide)) (z_uk (by decide)) (z_uk (by decide))
          have f4' : w_fr σ0 τ0 (x_u σ4 45 (w 2) (nI k')) (x_u τ4 1 (1354 + w 2) (nI k')) := w_fr_d (w_fr_c f4 (fun c _ hc => z_uk (by omega))) (fun c _ hc => z_uk hc) (fun j hj => z_ui (by omega))
          obtain ⟨σ5, r5, τ5, s5, t5, c5, d5, hh5⟩ := w_sign l4' (a := 44) (by decide)
          have f5 : w_fr σ0 τ0 σ5 τ5 := w_fr_d (w_fr_c f4' (fun c hc _ => c5 c hc)) (fun c hc _ => d5 c hc) (fun j _ => by rw [d5 1 (by decide)])
          have q5 : σ5 40 = σ 40 := by rw [c5 40 (by decide), z_uk (by decide), q4]
          rw [s5, z_v, t5, z_b]
          rcases hh5 with ⟨rfl, hp5, l5⟩ | ⟨rfl, l5⟩
          · rw [if_neg z_10]
            unfold w_gD
            obtain ⟨y6, σ6, r6, τ6, s6, t6, c6', d6, hh6⟩ := w_number l5 (lo := 1) (hi := 9) (by decide) (by decide)
            have s6 : fX4_readNumber 1 9 σ5 = some (y6, σ6) := s6
            have t6 : fX8_readsNumber 1 9 τ5 = some (r6, τ6) := t6
            have f6 : w_fr σ0 τ0 σ6 τ6 := w_fr_d (w_fr_c f5 (fun c hc _ => c6' c hc)) (fun c hc _ => d6 c hc) (fun j _ => by rw [d6 1 (by decide)])
            have q6 : σ6 40 = σ 40 := (c6' 40 (by decide)).trans q5
            rw [s6, z_b, t6, z_b]
            rcases hh6 with ⟨rfl, k'', p6, kl'', kk'', rfl, e15'', -, l6⟩ | ⟨rfl, l6⟩
            · rw [if_neg z_10]
              unfold w_gE w_hC
              have v2 : ∀ j, x_u τ6 1 (1360 + w 2) (nI k'') 1 j = if j = 1360 + w 2 then nI k'' else if j = 1354 + w 2 then nI k' else if j = 1348 + w 2 then nI k else if j = 1342 + w 2 then nI kd else τ 1 j := by
                intro j
                rw [z_uu, z_upd, d6 1 (by decide), d5 1 (by decide), z_uu, z_upd, v1]
              rw [show (1360 : Int32) + nI (w 2) = nI (1360 + w 2) from nI_add 1360 (w 2), z_gi (n := 6) c6 (by decide), z_gi (n := 1372) (by omega) (by decide), z_w, z_w, z_cl (show w 2 < 65536 by omega), z_cl (show 1360 + w 2 < 65536 by omega), e15'', z_g (show x_in (1325 : Int32) 1372 by decide), z_w, z_c1325, v2 1325, if_neg (by omega), if_neg (by omega), if_neg (by omega), if_neg (by omega), m1, nI_1]
              have l6' : w_lv σ0 τ0 n p6 (x_u σ6 46 (w 2) (nI k'')) (x_u (x_u τ6 1 (1360 + w 2) (nI k'')) 1 1325 (nI (w 2 + 1))) := w_lv_c l6 (z_uk (by decide)) (z_uk (by decide)) ((z_uk (by decide)).trans (z_uk (by decide))) ((z_uk (by decide)).trans (z_uk (by decide)))
              have f6' : w_fr σ0 τ0 (x_u σ6 46 (w 2) (nI k'')) (x_u (x_u τ6 1 (1360 + w 2) (nI k'')) 1 1325 (nI (w 2 + 1))) := w_fr_d (w_fr_c f6 (fun c _ hc => z_uk (by omega))) (fun c _ hc => (z_uk hc).trans (z_uk hc)) (fun j hj => (z_ui (by omega)).trans (z_ui (by omega)))
              obtain ⟨σ7, r7, τ7, s7, t7, c7, d7, hh7⟩ := w_sign l6' (a := 59) (by decide)
              have f7 : w_fr σ0 τ0 σ7 τ7 := w_fr_d (w_fr_c f6' (fun c hc _ => c7 c hc)) (fun c hc _ => d7 c hc) (fun j _ => by rw [d7 1 (by decide)])
              have q7 : σ7 40 = σ 40 := by rw [c7 40 (by decide), z_uk (by decide), q6]
              rw [s7, z_v, t7, z_b]
              rcases hh7 with ⟨rfl, hp7, l7⟩ | ⟨rfl, l7⟩
              · unfold w_gF
                rw [z_gi (n := 6) c6 (by decide), z_w, z_w, z_cl (show w 2 < 65536 by omega), z_uk (show (40 : Nat) ≠ 47 by decide), show σ7 40 5 + 1 = nI (w 2 + 1) by rw [q7, e5, nI_1]]
                have n40 : ∀ j, x_u (x_u σ7 47 (w 2) 0) 40 5 (nI (w 2 + 1)) 40 j = if j = 5 then nI (w 2 + 1) else σ 40 j := by
                  intro j
                  rw [z_uu, z_upd, z_uk (by decide), q7]
                have n43 : ∀ j, x_u (x_u σ7 47 (w 2) 0) 40 5 (nI (w 2 + 1)) 43 j = if j = w 2 then nI kd else σ 43 j := by
                  intro j
                  rw [z_uk (by decide), z_uk (by decide), c7 43 (by decide), z_uk (by decide), c6' 43 (by decide), c5 43 (by decide), z_uk (by decide), c4 43 (by decide), c3 43 (by decide), z_uk (by decide), g43]
                have n44 : ∀ j, x_u (x_u σ7 47 (w 2) 0) 40 5 (nI (w 2 + 1)) 44 j = if j = w 2 then nI k else σ 44 j := by
                  intro j
                  rw [z_uk (by decide), z_uk (by decide), c7 44 (by decide), z_uk (by decide), c6' 44 (by decide), c5 44 (by decide), z_uk (by decide), c4 44 (by decide), c3 44 (by decide), z_uu, z_upd, g2 44 (by decide) (by decide)]
                have n45 : ∀ j, x_u (x_u σ7 47 (w 2) 0) 40 5 (nI (w 2 + 1)) 45 j = if j = w 2 then nI k' else σ 45 j := by
                  intro j
                  rw [z_uk (by decide), z_uk (by decide), c7 45 (by decide), z_uk (by decide), c6' 45 (by decide), c5 45 (by decide), z_uu, z_upd, c4 45 (by decide), c3 45 (by decide), z_uk (by decide), g2 45 (by decide) (by decide)]
                have n46 : ∀ j, x_u (x_u σ7 47 (w 2) 0) 40 5 (nI (w 2 + 1)) 46 j = if j = w 2 then nI k'' else σ 46 j := by
                  intro j
                  rw [z_uk (by decide), z_uk (by decide), c7 46 (by decide), z_uu, z_upd, c6' 46 (by decide), c5 46 (by decide), z_uk (by decide), c4 46 (by decide), c3 46 (by decide), z_uk (by decide), g2 46 (by decide) (by decide)]
                have n47 : ∀ j, x_u (x_u σ7 47 (w 2) 0) 40 5 (nI (w 2 + 1)) 47 j = if j = w 2 then 0 else σ 47 j := by
                  intro j
                  rw [z_uk (by decide), z_uu, z_upd, c7 47 (by decide), z_uk (by decide), c6' 47 (by decide), c5 47 (by decide), z_uk (by decide), c4 47 (by decide), c3 47 (by decide), z_uk (by decide), g2 47 (by decide) (by decide)]
                have nS : ∀ c, 41 ≤ c → c ≤ 42 → x_u (x_u σ7 47 (w 2) 0) 40 5 (nI (w 2 + 1)) c = σ c := by
                  intro c hc1 hc2
                  rw [z_uk (by omega), z_uk (by omega), c7 c (by omega), z_uk (by omega), c6' c (by omega), c5 c (by omega), z_uk (by omega), c4 c (by omega), c3 c (by omega), z_uk (by omega), g2 c (by omega) (by omega)]
                have n1 : ∀ j, τ7 1 j = if j = 1325 then nI (w 2 + 1) else if j = 1360 + w 2 then nI k'' else if j = 1354 + w 2 then nI k' else if j = 1348 + w 2 then nI k else if j = 1342 + w 2 then nI kd else τ 1 j := by
                  intro j
                  rw [d7 1 (by decide), z_uu, z_upd, v2]
                have no : ∀ j, j ≠ 1325 → j ≠ 1360 + w 2 → j ≠ 1354 + w 2 → j ≠ 1348 + w 2 → j ≠ 1342 + w 2 → τ7 1 j = τ 1 j := by
                  intro j j1 j2 j3 j4 j5
                  rw [n1, if_neg j1, if_neg j2, if_neg j3, if_neg j4, if_neg j5]
                have eo : ∀ j, j ≠ 2 → (j < 19 ∨ (∃ g, g < w 2 ∧ (j = 19 + g ∨ j = 25 + g ∨ j = 31 + g ∨ j = 37 + g ∨ j = 43 + g))) → (fun j => if j = 2 then w 2 + 1 else if j = 19 + w 2 then kd else if j = 25 + w 2 then k else if j = 31 + w 2 then k' else if j = 37 + w 2 then k'' else if j = 43 + w 2 then 0 else w j) j = w j := fun j j1 j2 => by
                  show (if j = 2 then w 2 + 1 else if j = 19 + w 2 then kd else if j = 25 + w 2 then k else if j = 31 + w 2 then k' else if j = 37 + w 2 then k'' else if j = 43 + w 2 then 0 else w j) = w j
                  rw [if_neg j1, if_neg (by omega), if_neg (by omega), if_neg (by omega), if_neg (by omega), if_neg (by omega)]
                have ea : (fun j => if j = 2 then w 2 + 1 else if j = 19 + w 2 then kd else if j = 25 + w 2 then k else if j = 31 + w 2 then k' else if j = 37 + w 2 then k'' else if j = 43 + w 2 then 0 else w j) (19 + w 2) = kd := by
                  show (if (19 + w 2) = 2 then w 2 + 1 else if (19 + w 2) = 19 + w 2 then kd else if (19 + w 2) = 25 + w 2 then k else if (19 + w 2) = 31 + w 2 then k' else if (19 + w 2) = 37 + w 2 then k'' else if (19 + w 2) = 43 + w 2 then 0 else w (19 + w 2)) = kd
                  rw [if_neg (by omega), if_pos rfl]
                have eb : (fun j => if j = 2 then w 2 + 1 else if j = 19 + w 2 then kd else if j = 25 + w 2 then k else if j = 31 + w 2 then k' else if j = 37 + w 2 then k'' else if j = 43 + w 2 then 0 else w j) (25 + w 2) = k := by
                  show (if (25 + w 2) = 2 then w 2 + 1 else if (25 + w 2) = 19 + w 2 then kd else if (25 + w 2) = 25 + w 2 then k else if (25 + w 2) = 31 + w 2 then k' else if (25 + w 2) = 37 + w 2 then k'' else if (25 + w 2) = 43 + w 2 then 0 else w (25 + w 2)) = k
                  rw [if_neg (by omega), if_neg (by omega), if_pos rfl]
                have ec : (fun j => if j = 2 then w 2 + 1 else if j = 19 + w 2 then kd else if j = 25 + w 2 then k else if j = 31 + w 2 then k' else if j = 37 + w 2 then k'' else if j = 43 + w 2 then 0 else w j) (31 + w 2) = k' := by
                  show (if (31 + w 2) = 2 then w 2 + 1 else if (31 + w 2) = 19 + w 2 then kd else if (31 + w 2) = 25 + w 2 then k else if (31 + w 2) = 31 + w 2 then k' else if (31 + w 2) = 37 + w 2 then k'' else if (31 + w 2) = 43 + w 2 then 0 else w (31 + w 2)) = k'
                  rw [if_neg (by omega), if_neg (by omega), if_neg (by omega), if_pos rfl]
                have ed : (fun j => if j = 2 then w 2 + 1 else if j = 19 + w 2 then kd else if j = 25 + w 2 then k else if j = 31 + w 2 then k' else if j = 37 + w 2 then k'' else if j = 43 + w 2 then 0 else w j) (37 + w 2) = k'' := by
                  show (if (37 + w 2) = 2 then w 2 + 1 else if (37 + w 2) = 19 + w 2 then kd else if (37 + w 2) = 25 + w 2 then k else if (37 + w 2) = 31 + w 2 then k' else if (37 + w 2) = 37 + w 2 then k'' else if (37 + w 2) = 43 + w 2 then 0 else w (37 + w 2)) = k''
                  rw [if_neg (by omega), if_neg (by omega), if_neg (by omega), if_neg (by omega), if_pos rfl]
                have ee : (fun j => if j = 2 then w 2 + 1 else if j = 19 + w 2 then kd else if j = 25 + w 2 then k else if j = 31 + w 2 then k' else if j = 37 + w 2 then k'' else if j = 43 + w 2 then 0 else w j) (43 + w 2) = 0 := by
                  show (if (43 + w 2) = 2 then w 2 + 1 else if (43 + w 2) = 19 + w 2 then kd else if (43 + w 2) = 25 + w 2 then k else if (43 + w 2) = 31 + w 2 then k' else if (43 + w 2) = 37 + w 2 then k'' else if (43 + w 2) = 43 + w 2 then 0 else w (43 + w 2)) = 0
                  rw [if_neg (by omega), if_neg (by omega), if_neg (by omega), if_neg (by omega), if_neg (by omega), if_pos rfl]
                have e2 : (fun j => if j = 2 then w 2 + 1 else if j = 19 + w 2 then kd else if j = 25 + w 2 then k else if j = 31 + w 2 then k' else if j = 37 + w 2 then k'' else if j = 43 + w 2 then 0 else w j) 2 = w 2 + 1 := rfl
                generalize (fun j => if j = 2 then w 2 + 1 else if j = 19 + w 2 then kd else if j = 25 + w 2 then k else if j = 31 + w 2 then k' else if j = 37 + w 2 then k'' else if j = 43 + w 2 then 0 else w j) = w' at eo ea eb ec ed ee e2
                have hv1 : w' 1 = w 1 := eo 1 (by decide) (Or.inl (by decide))
                refine ⟨_, 1, τ7, rfl, z_g (by decide) _, Or.inl ⟨rfl, c6, p6 + 1, w', hv1, e2, ?_⟩⟩
                refine ⟨w_lv_c l7 ((z_uk (by decide)).trans (z_uk (by decide))) ((z_uk (by decide)).trans (z_uk (by decide))) rfl rfl, w_fr_c f7 (fun c _ hc => (z_uk (by omega)).trans (z_uk (by omega))), ⟨?_, ?_, ?_, ?_, ?_, fun s hs => ?_, fun g hg => ⟨?_, ?_, ?_, ?_, ?_⟩⟩, ⟨?_, ?_, ?_, ?_, ?_, fun s hs => ?_, fun g hg => ⟨?_, ?_, ?_, ?_, ?_⟩⟩, ?_, ⟨?_, by omega, by omega, ?_, ?_, fun s hs => ?_, fun g hg => ?_⟩, fun g hg => ?_⟩
                · rw [n40, if_neg (by decide), eo 0 (by decide) (Or.inl (by decide))]; exact hS.1
                · rw [n40, if_neg (by decide), hv1]; exact e3
                · rw [n40, if_pos rfl, e2]
                · rw [n40, if_neg (by decide), eo 3 (by decide) (Or.inl (by decide))]; exact hS.2.2.2.1
                · rw [n40, if_neg (by decide), eo 4 (by decide) (Or.inl (by decide))]; exact hS.2.2.2.2.1
                · rw [hv1] at hs
                  rw [nS 41 (by decide) (by decide), nS 42 (by decide) (by decide), eo (5 + s) (by omega) (Or.inl (by omega)), eo (12 + s) (by omega) (Or.inl (by omega))]
                  exact hS.2.2.2.2.2.1 s hs
                · show x_u (x_u σ7 47 (w 2) 0) 40 5 (nI (w 2 + 1)) 43 g = _
                  rw [n43]
                  by_cases q : g = w 2
                  · rw [if_pos q, q, ea]
                  · rw [if_neg q, eo (19 + g) (by omega) (Or.inr ⟨g, by omega, by omega⟩)]; exact (hS.2.2.2.2.2.2 g (by omega)).1
                · show x_u (x_u σ7 47 (w 2) 0) 40 5 (nI (w 2 + 1)) 44 g = _
                  rw [n44]
                  by_cases q : g = w 2
                  · rw [if_pos q, q, eb]
                  · rw [if_neg q, eo (25 + g) (by omega) (Or.inr ⟨g, by omega, by omega⟩)]; exact (hS.2.2.2.2.2.2 g (by omega)).2.1
                · show x_u (x_u σ7 47 (w 2) 0) 40 5 (nI (w 2 + 1)) 45 g = _
                  rw [n45]
                  by_cases q : g = w 2
                  · rw [if_pos q, q, ec]
                  · rw [if_neg q, eo (31 + g) (by omega) (Or.inr ⟨g, by omega, by omega⟩)]; exact (hS.2.2.2.2.2.2 g (by omega)).2.2.1
                · show x_u (x_u σ7 47 (w 2) 0) 40 5 (nI (w 2 + 1)) 46 g = _
                  rw [n46]
                  by_cases q : g = w 2
                  · rw [if_pos q, q, ed]
                  · rw [if_neg q, eo (37 + g) (by omega) (Or.inr ⟨g, by omega, by omega⟩)]; exact (hS.2.2.2.2.2.2 g (by omega)).2.2.2.1
                · show x_u (x_u σ7 47 (w 2) 0) 40 5 (nI (w 2 + 1)) 47 g = _
                  rw [n47]
                  by_cases q : g = w 2
                  · rw [if_pos q, q, ee]; rfl
                  · rw [if_neg q, eo (43 + g) (by omega) (Or.inr ⟨g, by omega, by omega⟩)]; exact (hS.2.2.2.2.2.2 g (by omega)).2.2.2.2
                · rw [no 1323 (by decide) (by omega) (by omega) (by omega) (by omega), eo 0 (by decide) (Or.inl (by decide))]; exact hM.1
                · rw [no (1323 + 1) (by decide) (by omega) (by omega) (by omega) (by omega), hv1]; exact hM.2.1
                · rw [n1, if_pos rfl, e2]
                · rw [no (1323 + 3) (by decide) (by omega) (by omega) (by omega) (by omega), eo 3 (by decide) (Or.inl (by decide))]; exact hM.2.2.2.1
                · rw [no (1323 + 4) (by decide) (by omega) (by omega) (by omega) (by omega), eo 4 (by decide) (Or.inl (by decide))]; exact hM.2.2.2.2.1
                · rw [hv1] at hs
                  rw [no _ (by omega) (by omega) (by omega) (by omega) (by omega), no _ (by omega) (by omega) (by omega) (by omega) (by omega), eo (5 + s) (by omega) (Or.inl (by omega)), eo (12 + s) (by omega) (Or.inl (by omega))]
                  exact hM.2.2.2.2.2.1 s hs
                · by_cases q : g = w 2
                  · rw [n1, if_neg (by omega), if_neg (by omega), if_neg (by omega), if_neg (by omega), if_pos (by omega), q, ea]
                  · rw [no _ (by omega) (by omega) (by omega) (by omega) (by omega), eo (19 + g) (by omega) (Or.inr ⟨g, by omega, by omega⟩)]; exact (hM.2.2.2.2.2.2 g (by omega)).1
                · by_cases q : g = w 2
                  · rw [n1, if_neg (by omega), if_neg (by omega), if_neg (by omega), if_pos (by omega), q, eb]
                  · rw [no _ (by omega) (by omega) (by omega) (by omega) (by omega), eo (25 + g) (by omega) (Or.inr ⟨g, by omega, by omega⟩)]; exact (hM.2.2.2.2.2.2 g (by omega)).2.1
                · by_cases q : g = w 2
                  · rw [n1, if_neg (by omega), if_neg (by omega), if_pos (by omega), q, ec]
                  · rw [no _ (by omega) (by omega) (by omega) (by omega) (by omega), eo (31 + g) (by omega) (Or.inr ⟨g, by omega, by omega⟩)]; exact (hM.2.2.2.2.2.2 g (by omega)).2.2.1
                · by_cases q : g = w 2
                  · rw [n1, if_neg (by omega), if_pos (by omega), q, ed]
                  · rw [no _ (by omega) (by omega) (by omega) (by omega) (by omega), eo (37 + g) (by omega) (Or.inr ⟨g, by omega, by omega⟩)]; exact (hM.2.2.2.2.2.2 g (by omega)).2.2.2.1
                · rw [no _ (by omega) (by omega) (by omega) (by omega) (by omega)]
                  by_cases q : g = w 2
                  · have hz2 := hz g (by omega)
                    rw [show 1323 + (43 + g) = 1366 + g by omega, hz2, q, ee]; rfl
                  · rw [eo (43 + g) (by omega) (Or.inr ⟨g, by omega, by omega⟩)]; exact (hM.2.2.2.2.2.2 g (by omega)).2.2.2.2
                · rw [n40, if_neg (by decide)]; exact h400
                · rw [eo 0 (by decide) (Or.inl (by decide))]; exact hok.1
                · rw [eo 3 (by decide) (Or.inl (by decide))]; exact hok.2.2.2.1
                · rw [eo 4 (by decide) (Or.inl (by decide))]; exact hok.2.2.2.2.1
                · rw [hv1] at hs
                  rw [eo (5 + s) (by omega) (Or.inl (by omega)), eo (12 + s) (by omega) (Or.inl (by omega))]; exact hok.2.2.2.2.2.1 s hs
                · by_cases q : g = w 2
                  · rw [q, ea, eb, ec, ed]; exact ⟨⟨hk1, hk5⟩, ⟨kl, kk⟩, kk', ⟨kl'', kk''⟩⟩
                  · rw [eo (19 + g) (by omega) (Or.inr ⟨g, by omega, by omega⟩), eo (25 + g) (by omega) (Or.inr ⟨g, by omega, by omega⟩), eo (31 + g) (by omega) (Or.inr ⟨g, by omega, by omega⟩), eo (37 + g) (by omega) (Or.inr ⟨g, by omega, by omega⟩)]
                    exact hok.2.2.2.2.2.2 g (by omega)
                · rw [no _ (by omega) (by omega) (by omega) (by omega) (by omega)]; exact hz g hg
              · obtain ⟨t, a1, a2⟩ := (w_gT (σ0 := σ0) (τ0 := τ0) (τ := τ7) (a := w 1) (b := w 2) c6).1 σ7 (D2 l7 f7 q7)
                exact ⟨t, 0, τ7, a1, z_g (by decide) _, Or.inr ⟨rfl, _, _, a2, h7, by omega⟩⟩
            · rw [if_pos rfl]
              obtain ⟨t, a1, a2⟩ := (w_gT (σ0 := σ0) (τ0 := τ0) (τ := τ6) (a := w 1) (b := w 2) c6).2.1 y6 σ6 (D2 l6 f6 q6)
              exact ⟨t, 0, τ6, a1, rfl, Or.inr ⟨rfl, _, _, a2, h7, by omega⟩⟩
          · rw [if_pos rfl]
            obtain ⟨t, a1, a2⟩ := (w_gT (σ0 := σ0) (τ0 := τ0) (τ := τ5) (a := w 1) (b := w 2) c6).2.2.1 σ5 (D2 l5 f5 q5)
            exact ⟨t, 0, τ5, a1, rfl, Or.inr ⟨rfl, _, _, a2, h7, by omega⟩⟩
        · rw [if_pos rfl]
          obtain ⟨t, a1, a2⟩ := (w_gT (σ0 := σ0) (τ0 := τ0) (τ := τ4) (a := w 1) (b := w 2) c6).2.2.2.1 y σ4 (D2 l4 f4 q4)
          exact ⟨t, 0, τ4, a1, rfl, Or.inr ⟨rfl, _, _, a2, h7, by omega⟩⟩
      · rw [if_pos rfl]
        obtain ⟨t, a1, a2⟩ := (w_gT (σ0 := σ0) (τ0 := τ0) (τ := τ3) (a := w 1) (b := w 2) c6).2.2.2.2.1 σ3 (D2 l3 f3 q3)
        exact ⟨t, 0, τ3, a1, rfl, Or.inr ⟨rfl, _, _, a2, h7, by omega⟩⟩
    · rw [if_pos rfl]
      obtain ⟨t, a1, a2⟩ := (w_gT (σ0 := σ0) (τ0 := τ0) (τ := τ2) (a := w 1) (b := w 2) c6).2.2.2.2.2 x σ2 (D2 l2 f2 (g2 40 (by decide) (by decide)))
      exact ⟨t, 0, τ2, a1, rfl, Or.inr ⟨rfl, _, _, a2, h7, by omega⟩⟩
  · have ew : w 2 = 6 := by omega
    obtain ⟨ht, hpn, h4, h5, g5, h2, hj⟩ := hl
    obtain ⟨σ1, s1, s2, s3, s4, s5, s6, s7⟩ := w_failAt h4 (σ 13 5) 3
    refine ⟨σ1, 0, x_u τ 0 14 3, ?_, ?_, Or.inr ⟨rfl, w 1, w 2, ⟨⟨3, nI p, by decide, s3, s4, s5.trans h5, z_us _ _ _ _, (z_ui (by decide)).trans g5, fun j j1 j2 j3 => (z_ui j2).trans (hj j j1 j2 j3)⟩, w_fr_d (w_fr_c hf (fun c hc _ => s2 c hc)) (fun c hc _ => z_uk hc) (fun j _ => by rw [z_uk (by decide)]), by rw [s2 40 (by decide)]; exact e3, by rw [s2 40 (by decide)]; exact e5⟩, h7, h6⟩⟩
    · unfold fX4_readGesture fX4_fail
      rw [e5, ew, if_neg (by decide), s1]
      rfl
    · rw [w_hs0, m1, ew]
      unfold w_hs
      rw [if_pos (by decide), w_refuse, z_b]
      exact z_g (by decide) _
