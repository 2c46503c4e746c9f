/-! ===== pure: city, the whole text ===== -/
def w_j (τ0 τ : x_S) : Prop := ∀ j, j ≠ 13 → j ≠ 14 → j ≠ 15 → τ 0 j = τ0 0 j
/-- the end of a reading: the answers of both, and what they left -/
def w_end (σ0 τ0 : x_S) (a : Int32) (σ' : x_S) (r : Int32) (τ' : x_S) : Prop := w_fr σ0 τ0 σ' τ' ∧ w_j τ0 τ' ∧ σ' 13 1 = 0 ∧ ((a = 1 ∧ r = 1 ∧ σ' 13 2 = σ0 13 2 ∧ ∃ w, z_S σ' 40 w ∧ z_M τ' 1323 w ∧ σ' 40 0 = 1 ∧ z_ok w) ∨ (a = 0 ∧ r = 0 ∧ σ' 13 2 = τ' 0 14 ∧ σ' 13 3 = τ' 0 13))
def w_E (σ0 τ0 : x_S) (x y : Option (Int32 × x_S)) : Prop := ∃ a σ' r τ', x = some (a, σ') ∧ y = some (r, τ') ∧ w_end σ0 τ0 a σ' r τ'
theorem w_dead86 {σ0 τ0 σ τ : x_S} (h : w_ft σ0 τ0 σ τ) (hf : w_fr σ0 τ0 σ τ) : w_E σ0 τ0 (bX4_reads_86 σ) (some (0, τ)) := by
  have hn := w_ftn h
  obtain ⟨e, q, h1, h2, h3, h4, h5, h6, h7⟩ := h
  have e1 : bX4_reads_102 σ = some (0, x_u σ 13 1 0) := by
    unfold bX4_reads_102
    rw [z_w, z_ui (show (4 : Nat) ≠ 1 by decide), if_neg hn]
  have e2 : bX4_reads_86 σ = some (0, x_u σ 13 1 0) := by
    unfold bX4_reads_86 fX4_fail
    rw [w_failD hn]
    by_cases c : σ 13 1 ≤ σ 13 5
    · rw [if_pos c, e1]
    · rw [if_neg c]; exact e1
  refine ⟨0, _, 0, τ, e2, rfl, w_fr_c hf (fun c hc _ => z_uk hc), h7, z_us _ _ _ _, Or.inr ⟨rfl, rfl, ?_, ?_⟩⟩
  · rw [z_ui (by decide), h3, h5]
  · rw [z_ui (by decide), h4, h6]
theorem w_dead52 {σ0 τ0 σ τ : x_S} (h : w_ft σ0 τ0 σ τ) (hf : w_fr σ0 τ0 σ τ) (K : Int32 → x_S → Option (Int32 × x_S)) (K' : Int32 → x_S → Option (Int32 × x_S)) (x : Int32) : w_E σ0 τ0 (gX4_reads_52 40 K x σ) (gX8_reads_56 K' 0 τ) := by
  have e1 : gX4_reads_52 40 K x σ = bX4_reads_86 σ := by
    unfold gX4_reads_52
    by_cases c : (120 : Int32) ≤ x
    · rw [if_pos c]
    · rw [if_neg c, if_neg (w_ftn h)]
  have e2 : gX8_reads_56 K' 0 τ = some (0, τ) := rfl
  rw [e1, e2]
  exact w_dead86 h hf
theorem w_dead17 {σ0 τ0 σ τ : x_S} (h : w_ft σ0 τ0 σ τ) (hf : w_fr σ0 τ0 σ τ) (K : Int32 → x_S → Option (Int32 × x_S)) (K' : Int32 → x_S → Option (Int32 × x_S)) (x : Int32) : w_E σ0 τ0 (gX4_reads_17 40 K x σ) (gX8_reads_35 K' 0 τ) := by
  have e1 : gX4_reads_17 40 K x σ = bX4_reads_52 40 0 σ := by
    unfold gX4_reads_17
    by_cases c : (120 : Int32) ≤ x
    · rw [if_pos c]
    · rw [if_neg c, if_neg (w_ftn h)]
  have e2 : gX8_reads_35 K' 0 τ = bX8_reads_56 0 τ := rfl
  obtain ⟨F, hF⟩ : ∃ F, x_F = F + 1 := ⟨4095, rfl⟩
  rw [e1, e2]
  unfold bX4_reads_52 bX8_reads_56
  rw [hF]
  show w_E σ0 τ0 (gX4_reads_52 40 (x_fx _ _ F) 0 σ) (gX8_reads_56 (x_fx _ _ F) 0 τ)
  exact w_dead52 h hf _ _ _
/-- the end of the text -/
theorem w_live86 {σ0 τ0 σ τ : x_S} {n p : Nat} {w : z_V} (h : w_L σ0 τ0 n p w σ τ) : w_E σ0 τ0 (bX4_reads_86 σ) (bX8_reads_94 1 τ) := by
  obtain ⟨hl, hf, hS, hM, h400, hok, hz⟩ := h
  obtain ⟨ht, hp, h4, h5, g5, h2, hj⟩ := hl
  have hn := ht.2.2.1
  unfold bX4_reads_86 bX8_reads_94
  rw [if_neg z_10, ht.1, h5, g5, ht.2.1]
  by_cases c : p < n
  · obtain ⟨σ1, s1, s2, s3, s4, s5, s6, s7⟩ := w_failAt h4 (σ 13 5) 1
    have e1 : fX4_fail 1 σ = some σ1 := by unfold fX4_fail; rw [s1]; rfl
    rw [if_neg (nI_ge c (by omega)), if_neg (show ¬ nI p = nI n from fun z => by have := (nI_eq (a := p) (b := n) (by omega) (by omega)).mp z; omega), e1, z_v, w_refuse, z_b, if_pos rfl]
    unfold bX4_reads_102
    rw [z_w, z_ui (show (4 : Nat) ≠ 1 by decide), if_neg (by rw [s3]; exact z_10)]
    refine ⟨0, _, 0, _, rfl, rfl, w_fr_d (w_fr_c hf (fun c hc _ => (z_uk hc).trans (s2 c hc))) (fun c hc _ => z_uk hc) (fun j _ => by rw [z_uk (by decide)]), fun j j1 j2 j3 => (z_ui j2).trans (hj j j1 j2 j3), z_us _ _ _ _, Or.inr ⟨rfl, rfl, ?_, ?_⟩⟩
    · rw [z_ui (by decide), s4, z_us]
    · rw [z_ui (by decide), s5, h5, z_ui (by decide), g5]
  · have e : p = n := by omega
    subst e
    rw [if_pos (Int32.le_refl _), if_pos rfl]
    unfold bX4_reads_102
    rw [z_w, z_ui (show (4 : Nat) ≠ 1 by decide), if_pos h4]
    refine ⟨1, _, 1, _, rfl, rfl, w_fr_c hf (fun c hc _ => z_uk hc), hj, z_us _ _ _ _, Or.inl ⟨rfl, rfl, (z_ui (by decide)).trans h2, w, z_S_c hS (fun k g1 g2 => z_uk (by omega)), hM, ?_, hok⟩⟩
    rw [z_uk (by decide)]; exact h400
theorem w_gesL {σ0 τ0 : x_S} {n : Nat} : ∀ d w p f f' σ τ, 6 < w 2 + d → d < f → d < f' → w_L σ0 τ0 n p w σ τ → w_E σ0 τ0 (x_fx (α := Int32 → x_S → Option (Int32 × x_S)) (fun _ _ => none) (fun K => fun x2 σ => gX4_reads_52 40 K x2 σ) f (nI (w 2)) σ) (x_fx (α := Int32 → x_S → Option (Int32 × x_S)) (fun _ _ => none) (fun K => fun x1 σ => gX8_reads_56 K x1 σ) f' 1 τ) := by
  intro d
  induction d with
  | zero =>
    intro w p f f' σ τ hd hf hf' h
    have := h.2.2.2.2.2.1.2.2.1
    exact absurd hd (by omega)
  | succ d ih =>
    intro w p f f' σ τ hd hf hf' h
    have h6 := h.2.2.2.2.2.1.2.2.1
    obtain ⟨ht, hp, h4, h5, g5, h2, hj⟩ := h.1
    have hn := ht.2.2.1
    cases f with
    | zero => exact absurd hf (by omega)
    | succ f =>
      cases f' with
      | zero => exact absurd hf' (by omega)
      | succ f' =>
        have hx := w_next hn ht.1 h5 (show p < 1000 by omega)
        have hc : ¬ (120 : Int32) ≤ nI (w 2) := fun z => by have := (z_geL (a := w 2) (y := (120 : Int32)) 120 rfl (by omega) (by decide)).mp z; omega
        show w_E σ0 τ0 (gX4_reads_52 40 (x_fx _ _ f) (nI (w 2)) σ) (gX8_reads_56 (x_fx _ _ f') 1 τ)
        by_cases c : p < n
        · obtain ⟨kd, k5, kS, kM⟩ := w_kind (τ 6 p) σ τ
          have hx2 : fX4_next σ = some (τ 6 p) := by rw [hx, if_pos c, ht.2.2.2 p c]
          have eM : ∀ K : Int32 → x_S → Option (Int32 × x_S), gX8_reads_56 K 1 τ = if nI kd ≤ 0 then bX8_reads_94 1 τ else x_b (fX8_readsGesture τ) (fun r s => K r s) := by
            intro K
            unfold gX8_reads_56
            rw [if_neg z_10, ht.2.1, g5, if_neg (nI_ge c (by omega)), z_gi (n := 120) (by omega) (by decide), z_cl (by omega), kM, z_p]
          have eS : ∀ K : Int32 → x_S → Option (Int32 × x_S), gX4_reads_52 40 K (nI (w 2)) σ = if nI kd = 0 then bX4_reads_86 σ else x_v (fX4_readGesture 40 σ) (fun s => K (nI (w 2 + 1)) s) := by
            intro K
            unfold gX4_reads_52
            rw [if_neg hc, if_pos h4, hx2, z_p, kS, z_p, nI_1]
          rw [eM, eS]
          by_cases k0 : kd = 0
          · subst k0
            rw [if_pos (show nI 0 = (0 : Int32) from rfl), if_pos (by decide)]
            exact w_live86 h
          · rw [if_neg (show ¬ nI kd = (0 : Int32) from fun z => k0 ((nI_eq (a := kd) (b := 0) (by omega) (by decide)).mp z)), if_neg (show ¬ nI kd ≤ (0 : Int32) from fun z => k0 (by have := (nI_leI (a := kd) (b := 0) (by omega) (by decide)).mp z; omega))]
            obtain ⟨σ', r, τ', s1, s2, s3⟩ := w_gesture h c (Nat.one_le_iff_ne_zero.mpr k0) k5 (fun s => kS) (fun s => kM)
            rw [s1, s2, z_v, z_b]
            rcases s3 with ⟨rfl, c6, p', w', e1, e2, hL⟩ | ⟨rfl, a, b, hD, ha, hb⟩
            · rw [← e2]
              exact ih w' p' f f' σ' τ' (by omega) (by omega) (by omega) hL
            · cases f with
              | zero => exact absurd hf (by omega)
              | succ f =>
                cases f' with
                | zero => exact absurd hf' (by omega)
                | succ f' =>
                  show w_E σ0 τ0 (gX4_reads_52 40 (x_fx _ _ f) (nI (w 2 + 1)) σ') (gX8_reads_56 (x_fx _ _ f') 0 τ')
                  exact w_dead52 hD.1 hD.2.1 _ _ _
        · have hx2 : fX4_next σ = some (-1) := by rw [hx, if_neg c]
          have eM : ∀ K : Int32 → x_S → Option (Int32 × x_S), gX8_reads_56 K 1 τ = bX8_reads_94 1 τ := by
            intro K
            unfold gX8_reads_56
            rw [if_neg z_10, ht.2.1, g5, if_pos (nI_le (by omega) (by omega))]
          have eS : ∀ K : Int32 → x_S → Option (Int32 × x_S), gX4_reads_52 40 K (nI (w 2)) σ = bX4_reads_86 σ := by
            intro K
            unfold gX4_reads_52
            rw [if_neg hc, if_pos h4, hx2, z_p]
            rfl
          rw [eM, eS]
          exact w_live86 h
theorem w_strL {σ0 τ0 : x_S} {n : Nat} : ∀ d w p f f' σ τ, 7 < w 1 + d → d < f → d < f' → w 2 = 0 → w_L σ0 τ0 n p w σ τ → w_E σ0 τ0 (x_fx (α := Int32 → x_S → Option (Int32 × x_S)) (fun _ _ => none) (fun K => fun x2 σ => gX4_reads_17 40 K x2 σ) f (nI (w 1)) σ) (x_fx (α := Int32 → x_S → Option (Int32 × x_S)) (fun _ _ => none) (fun K => fun x1 σ => gX8_reads_35 K x1 σ) f' 1 τ) := by
  intro d
  induction d with
  | zero =>
    intro w p f f' σ τ hd hf hf' h0 h
    have := h.2.2.2.2.2.1.2.1
    exact absurd hd (by omega)
  | succ d ih =>
    intro w p f f' σ τ hd hf hf' h0 h
    have h7 := h.2.2.2.2.2.1.2.1
    obtain ⟨ht, hp, h4, h5, g5, h2, hj⟩ := h.1
    have hn := ht.2.2.1
    cases f with
    | zero => exact absurd hf (by omega)
    | succ f =>
      cases f' with
      | zero => exact absurd hf' (by omega)
      | succ f' =>
        have hx := w_next hn ht.1 h5 (show p < 1000 by omega)
        have hc : ¬ (120 : Int32) ≤ nI (w 1) := fun z => by have := (z_geL (a := w 1) (y := (120 : Int32)) 120 rfl (by omega) (by decide)).mp z; omega
        have ends : w_E σ0 τ0 (bX4_reads_52 40 0 σ) (bX8_reads_56 1 τ) := by
          have := w_gesL (σ0 := σ0) (τ0 := τ0) (n := n) 7 w p x_F x_F σ τ (by omega) (z_fuel (by decide)) (z_fuel (by decide)) h
          rw [h0] at this
          exact this
        show w_E σ0 τ0 (gX4_reads_17 40 (x_fx _ _ f) (nI (w 1)) σ) (gX8_reads_35 (x_fx _ _ f') 1 τ)
        by_cases c : p < n
        · have hx2 : fX4_next σ = some (τ 6 p) := by rw [hx, if_pos c, ht.2.2.2 p c]
          have eM : ∀ K : Int32 → x_S → Option (Int32 × x_S), gX8_reads_35 K 1 τ = if τ 6 p = 114 then x_b (fX8_readsStreet τ) (fun r s => K r s) else bX8_reads_56 1 τ := by
            intro K
            unfold gX8_reads_35 fX8_isLetter
            rw [if_neg z_10, ht.2.1, g5, if_neg (nI_ge c (by omega)), z_gi (n := 120) (by omega) (by decide), z_cl (by omega)]
            by_cases k : τ 6 p = 114
            · rw [if_pos k, z_p, if_neg z_10, if_pos k]
            · rw [if_neg k, z_p, if_pos rfl, if_neg k]
          have eS : ∀ K : Int32 → x_S → Option (Int32 × x_S), gX4_reads_17 40 K (nI (w 1)) σ = if τ 6 p = 114 then x_v (fX4_readStreet 40 σ) (fun s => K (nI (w 1 + 1)) s) else bX4_reads_52 40 0 σ := by
            intro K
            unfold gX4_reads_17
            rw [if_neg hc, if_pos h4, hx2, z_p, nI_1]
          rw [eM, eS]
          by_cases k0 : τ 6 p = 114
          · rw [if_pos k0, if_pos k0]
            obtain ⟨σ', r, τ', s1, s2, s3⟩ := w_street h c k0
            rw [s1, s2, z_v, z_b]
            rcases s3 with ⟨rfl, c6, p', w', e1, e2, hL⟩ | ⟨rfl, a, b, hD, ha, hb⟩
            · rw [← e1]
              exact ih w' p' f f' σ' τ' (by omega) (by omega) (by omega) (e2.trans h0) hL
            · cases f with
              | zero => exact absurd hf (by omega)
              | succ f =>
                cases f' with
                | zero => exact absurd hf' (by omega)
                | succ f' =>
                  show w_E σ0 τ0 (gX4_reads_17 40 (x_fx _ _ f) (nI (w 1 + 1)) σ') (gX8_reads_35 (x_fx _ _ f') 0 τ')
                  exact w_dead17 hD.1 hD.2.1 _ _ _
          · rw [if_neg k0, if_neg k0]
            exact ends
        · have hx2 : fX4_next σ = some (-1) := by rw [hx, if_neg c]
          have eM : ∀ K : Int32 → x_S → Option (Int32 × x_S), gX8_reads_35 K 1 τ = bX8_reads_56 1 τ := by
            intro K
            unfold gX8_reads_35 fX8_isLetter
            rw [if_neg z_10, ht.2.1, g5, if_pos (nI_le (by omega) (by omega)), z_p, if_pos rfl]
          have eS : ∀ K : Int32 → x_S → Option (Int32 × x_S), gX4_reads_17 40 K (nI (w 1)) σ = bX4_reads_52 40 0 σ := by
            intro K
            unfold gX4_reads_17
            rw [if_neg hc, if_pos h4, hx2, z_p, if_neg (by decide)]
          rw [eM, eS]
          exact ends
theorem w_reads {σ τ : x_S} (h : z_tape σ τ) : w_E σ τ (fX4_reads 40 σ) (fX8_reads τ) := by
  obtain ⟨n, hn, h1, h2, h3⟩ := h
  obtain ⟨f1, f2, f3⟩ := z_fold_0 1 1323 0 49 0 τ
  have eM : fX8_reads τ = x_b (fX8_readsLaw (x_u (z_fold (fun i σ => x_u σ 1 (1323 + i) 0) 0 49 τ) 0 13 0)) (fun r s => bX8_reads_35 r s) := by
    unfold fX8_reads bX8_reads_2
    refine (z_loopS (N := 49) (r := fun s => x_b (fX8_readsLaw (x_u s 0 13 0)) (fun r s => bX8_reads_35 r s)) (f := fun i σ => x_u σ 1 (1323 + i) 0) (fun K u i hi => ?_) (fun K u => ?_) 49 x_F 0 τ (by omega) (z_fuel (by omega)))
    · show gX8_reads_2 K (nI i) u = _
      unfold gX8_reads_2
      rw [if_neg (fun z => by have := (z_geL (a := i) (y := (49 : Int32)) 49 rfl (by omega) (by decide)).mp z; omega), show (1323 : Int32) + nI i = nI (1323 + i) from nI_add 1323 i, z_gi (n := 1372) (by omega) (by decide), z_w, z_cl (by omega), nI_1]
    · show gX8_reads_2 K (nI 49) u = _
      unfold gX8_reads_2
      rw [if_pos (by decide), z_w]
  have eS : fX4_reads 40 σ = x_v (fX4_readLaw 40 (x_u (x_u σ 13 4 0) 13 5 0)) (fun s => bX4_reads_17 40 0 s) := by
    unfold fX4_reads
    rw [z_w, z_w]
  rw [eM, eS]
  generalize qM : z_fold (fun i σ => x_u σ 1 (1323 + i) 0) 0 49 τ = τ1 at f1 f2 f3
  have l : w_lv σ τ n 0 (x_u (x_u σ 13 4 0) 13 5 0) (x_u τ1 0 13 0) := by
    refine ⟨⟨?_, ?_, hn, fun i hi => ?_⟩, Nat.zero_le _, ?_, z_us _ _ _ _, z_us _ _ _ _, ?_, fun j j1 j2 j3 => ?_⟩
    · rw [z_ui (by decide), z_ui (by decide)]; exact h1
    · rw [z_ui (by decide), f1 0 (by decide)]; exact h2
    · rw [z_uk (by decide), z_uk (by decide), z_uk (by decide), f1 6 (by decide)]; exact h3 i hi
    · rw [z_ui (by decide), z_us]
    · rw [z_ui (by decide), z_ui (by decide)]
    · rw [z_ui j1, f1 0 (by decide)]
  have hf : w_fr σ τ (x_u (x_u σ 13 4 0) 13 5 0) (x_u τ1 0 13 0) := ⟨fun c hc _ => (z_uk hc).trans (z_uk hc), fun c hc hd => (z_uk hc).trans (f1 c hd), fun j hj => by rw [z_uk (by decide)]; exact f2 j (Or.inl hj)⟩
  obtain ⟨σ', r, τ', s1, s2, s3⟩ := w_law l hf (fun k hk => by rw [z_uk (by decide)]; exact f3 k (Nat.zero_le _) (by omega))
  rw [s1, s2, z_v, z_b]
  rcases s3 with ⟨rfl, p, w, w1, w2, hL⟩ | ⟨rfl, hD⟩
  · have := w_strL (σ0 := σ) (τ0 := τ) (n := n) 8 w p x_F x_F σ' τ' (by omega) (z_fuel (by decide)) (z_fuel (by decide)) w2 hL
    rw [w1] at this
    exact this
  · obtain ⟨F, hF⟩ : ∃ F, x_F = F + 1 := ⟨4095, rfl⟩
    unfold bX4_reads_17 bX8_reads_35
    rw [hF]
    show w_E σ τ (gX4_reads_17 40 (x_fx _ _ F) 0 σ') (gX8_reads_35 (x_fx _ _ F) 0 τ')
    exact w_dead17 hD.1 hD.2.1 _ _ _
/-- city -/
theorem o_city {σ τ : x_S} (h : z_Rel σ τ) : z_op (fX7_city σ) (fX8_city τ) z_Rel := by
  obtain ⟨hst, hr, hta, hf, hto, him, htr⟩ := h
  obtain ⟨a, σ1, r, τ1, s1, t1, ⟨q1, q2, q3⟩, qj, q13, qq⟩ := w_reads hta
  unfold z_op fX7_city fX8_city
  rw [s1, t1, z_b, z_b, z_w]
  rcases qq with ⟨rfl, rfl, e2, w, wS, wM, w40, wok⟩ | ⟨rfl, rfl, e2, e3⟩
  · rw [if_neg z_10, if_neg z_10]
    obtain ⟨v, n, p, V, hT, hsd, hn, hp, k1, k2, k3, hV, hpast⟩ := hto
    obtain ⟨σ2, b1, b2, b3, b4⟩ := z_become (σ := σ1) (c0 := 32) (c1 := 40) (by omega) wS (Or.inr w40) wok.2.1 wok.2.2.1
    obtain ⟨τ2, y1, y2, y3, y4⟩ := z_copyTown (τ := x_u τ1 0 8 0) (a := 1323) (b := 0) (by omega) (by omega) (by omega)
    have y1 : fX8_copyTown 1323 0 (x_u τ1 0 8 0) = some τ2 := y1
    have ef : fX0_forgetAll σ2 = some (x_u σ2 16 4 0) := rfl
    rw [b1, z_v, ef, z_v, y1, z_v, z_w, z_w, z_c2]
    have M2 : z_M τ2 0 w := z_M_c (τ := τ1) wM ⟨wok.2.1, wok.2.2.1⟩ (fun k hk => by
      have := y4 k hk
      rw [z_uk (by decide)] at this
      exact this)
    have es : ∀ c, c ≠ 13 → c ≠ 16 → (c < 32 ∨ 48 ≤ c) → x_u σ2 16 4 0 c = σ c := fun c h1 h2 h3 => (z_uk h2).trans ((b2 c (by omega)).trans (q1 c h1 (by omega)))
    have et : ∀ c, c ≠ 0 → c ≠ 1 → x_u (x_u τ2 0 1 1) 0 2 0 c = τ c := fun c h1 h2 => (z_uk h1).trans ((z_uk h1).trans ((y2 c h2).trans ((z_uk h1).trans (q2 c h1 h2))))
    have e0 : ∀ j, j ≠ 1 → j ≠ 2 → j ≠ 8 → j ≠ 13 → j ≠ 14 → j ≠ 15 → x_u (x_u τ2 0 1 1) 0 2 0 0 j = τ 0 j := fun j j1 j2 j3 j4 j5 j6 => by
      rw [z_ui j2, z_ui j1, y2 0 (by decide), z_ui j3]; exact qj j j4 j5 j6
    have eM : ∀ k, k < 98 → x_u (x_u τ2 0 1 1) 0 2 0 1 (1225 + k) = τ 1 (1225 + k) := fun k hk => by
      rw [z_uk (by decide), z_uk (by decide), y3 _ (Or.inr (by omega)), z_uk (by decide)]; exact q3 _ (by omega)
    refine ⟨nI (w 2), _, _, ?_, ?_, ?_, z_rows_c hr (fun k g1 g2 => es k (by omega) (by omega) (by omega)) (et 3 (by decide) (by decide)) (et 4 (by decide) (by decide)) (et 5 (by decide) (by decide)), ⟨0, Nat.zero_le _, ?_, ?_, fun i hi => absurd hi (Nat.not_lt_zero _)⟩, ?_, ?_, z_ims_c him (fun k g1 g2 => es k (by omega) (by omega) (by omega)) eM (et 2 (by decide) (by decide)) (fun _ => ?_), z_tr_c htr (by rw [es 30 (by decide) (by decide) (by decide)]) (es 31 (by decide) (by decide) (by decide)) (e0 12 (by decide) (by decide) (by decide) (by decide) (by decide) (by decide)) (et 7 (by decide) (by decide))⟩
    · rw [show x_u σ2 16 4 0 32 5 = nI (w 2) by rw [z_uk (by decide)]; exact b3.2.2.1]
    · rw [show x_u (x_u τ2 0 1 1) 0 2 0 1 2 = nI (w 2) by rw [z_uk (by decide), z_uk (by decide)]; exact M2.2.2.1]
    · show x_u σ2 16 4 0 0 8 = x_u (x_u τ2 0 1 1) 0 2 0 0 10
      rw [es 0 (by decide) (by decide) (by decide), e0 10 (by decide) (by decide) (by decide) (by decide) (by decide) (by decide)]; exact hst
    · rw [z_uk (by decide), b2 13 (by decide)]; exact q13
    · rw [z_ui (by decide), z_ui (by decide), y2 0 (by decide), z_us]; rfl
    · rw [z_uk (by decide), b2 13 (by decide), e2, e0 9 (by decide) (by decide) (by decide) (by decide) (by decide) (by decide)]; exact hf
    · refine ⟨w, 0, p, fun _ => w, ⟨wok, z_S_c b3 (fun k g1 g2 => z_uk (by omega)), z_M_c M2 ⟨wok.2.1, wok.2.2.1⟩ (fun k _ => by rw [z_uk (by decide), z_uk (by decide)])⟩, Or.inl ⟨?_, ?_⟩, Nat.zero_le _, hp, z_us _ _ _ _, z_us _ _ _ _, ?_, rfl, fun i hi => absurd hi (Nat.not_lt_zero _)⟩
      · rw [z_uk (by decide), b4]; exact w40
      · rw [z_ui (by decide), z_us]
      · rw [z_ui (by decide), b2 16 (by decide), q1 16 (by decide) (by decide)]; exact k3
    · rw [z_ui (by decide), z_us]
  · rw [if_pos rfl, if_pos rfl, z_w]
    have et : ∀ c, c ≠ 0 → c ≠ 1 → x_u (x_u τ1 0 8 0) 0 9 (x_u τ1 0 8 0 0 14) c = τ c := fun c h1 h2 => (z_uk h1).trans ((z_uk h1).trans (q2 c h1 h2))
    have e0 : ∀ j, j ≠ 9 → j ≠ 8 → j ≠ 13 → j ≠ 14 → j ≠ 15 → x_u (x_u τ1 0 8 0) 0 9 (x_u τ1 0 8 0 0 14) 0 j = τ 0 j := fun j j1 j3 j4 j5 j6 => by
      rw [z_ui j1, z_ui j3]; exact qj j j4 j5 j6
    have eM : ∀ k, k < 1323 → x_u (x_u τ1 0 8 0) 0 9 (x_u τ1 0 8 0 0 14) 1 k = τ 1 k := fun k hk => by
      rw [z_uk (by decide), z_uk (by decide)]; exact q3 k hk
    refine ⟨(-1000100) - (σ1 13 3), σ1, _, rfl, ?_, ?_, z_rows_c hr (fun k g1 g2 => q1 k (by omega) (by omega)) (et 3 (by decide) (by decide)) (et 4 (by decide) (by decide)) (et 5 (by decide) (by decide)), ⟨0, Nat.zero_le _, q13, ?_, fun i hi => absurd hi (Nat.not_lt_zero _)⟩, ?_, z_town_c hto (fun k g1 g2 => q1 k (by omega) (by omega)) (fun k g1 g2 => q1 k (by omega) (by omega)) (fun k hk => eM k (by omega)) (e0 1 (by decide) (by decide) (by decide) (by decide) (by decide)) (e0 2 (by decide) (by decide) (by decide) (by decide) (by decide)), z_ims_c him (fun k g1 g2 => q1 k (by omega) (by omega)) (fun k hk => eM _ (by omega)) (et 2 (by decide) (by decide)) (fun z => (e0 1 (by decide) (by decide) (by decide) (by decide) (by decide)).trans z), z_tr_c htr (by rw [q1 30 (by decide) (by decide)]) (q1 31 (by decide) (by decide)) (e0 12 (by decide) (by decide) (by decide) (by decide) (by decide)) (et 7 (by decide) (by decide))⟩
    · rw [show x_u (x_u τ1 0 8 0) 0 9 (x_u τ1 0 8 0 0 14) 0 13 = σ1 13 3 by rw [z_ui (by decide), z_ui (by decide)]; exact e3.symm]
    · show σ1 0 8 = x_u (x_u τ1 0 8 0) 0 9 (x_u τ1 0 8 0 0 14) 0 10
      rw [q1 0 (by decide) (by decide), e0 10 (by decide) (by decide) (by decide) (by decide) (by decide)]; exact hst
    · rw [z_ui (by decide), z_us]; rfl
    · rw [z_us, z_ui (by decide)]; exact e2
