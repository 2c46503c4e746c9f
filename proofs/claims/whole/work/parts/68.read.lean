/-! ===== pure: city, what is read ===== -/
def w_tp (σ τ : x_S) (n : Nat) : Prop := σ 13 1 = nI n ∧ τ 0 8 = nI n ∧ n ≤ 120 ∧ ∀ i, i < n → σ 14 i = τ 6 i
theorem w_tp_c {σ τ σ' τ' : x_S} {n : Nat} (h : w_tp σ τ n) (h1 : σ' 13 1 = σ 13 1) (h2 : σ' 14 = σ 14) (h3 : τ' 0 8 = τ 0 8) (h4 : τ' 6 = τ 6) : w_tp σ' τ' n := ⟨h1.trans h.1, h3.trans h.2.1, h.2.2.1, fun i hi => by rw [h2, h4]; exact h.2.2.2 i hi⟩
theorem w_next {σ : x_S} {n p : Nat} (hn : n ≤ 120) (h1 : σ 13 1 = nI n) (h5 : σ 13 5 = nI p) (hp : p < 1000) : fX4_next σ = some (if p < n then σ 14 p else -1) := by
  unfold fX4_next
  rw [h5, h1, if_neg (z_lt0 (by omega))]
  by_cases c : p < n
  · rw [if_neg (nI_ge c (by omega)), if_neg (fun z => by have := (z_geL (a := p) (y := (120 : Int32)) 120 rfl (by omega) (by decide)).mp z; omega), z_gi (n := 120) (by omega) (by decide), z_cl (by omega), if_pos c]
  · rw [if_pos (nI_le (by omega) (by omega)), if_neg c]
theorem w_digit (x : Int32) : z_W x 48 57 = 0 ∨ ∃ d, d ≤ 9 ∧ x = nI (48 + d) ∧ z_W x 48 57 = 1 := by
  by_cases h : z_W x 48 57 = 0
  · exact Or.inl h
  · obtain ⟨h1, h2⟩ := z_W1 h
    have h3 : ¬ x < 0 := fun z => h1 (Int32.lt_trans z (by decide))
    obtain ⟨j, hj, rfl⟩ := nI_of h3
    have g1 : 48 ≤ j := Nat.not_lt.mp (fun z => h1 ((nI_ltI (b := 48) (by omega) (by decide)).mpr z))
    have g2 : j ≤ 57 := Nat.not_lt.mp (fun z => h2 ((nI_ltI (a := 57) (by decide) (by omega)).mpr z))
    refine Or.inr ⟨j - 48, by omega, by rw [show 48 + (j - 48) = j by omega], ?_⟩
    unfold z_W
    rw [if_neg h1, if_neg h2]
/-- a figure at p, or none -/
theorem w_fig {σ τ : x_S} {n p : Nat} (ht : w_tp σ τ n) (hp : p < 1000) : (fX8_isFigure (nI p) τ = some 0 ∧ (∀ σ', σ' 13 1 = nI n → σ' 14 = σ 14 → σ' 13 5 = nI p → ∃ y, fX4_next σ' = some y ∧ z_W y 48 57 = 0)) ∨ ∃ d, d ≤ 9 ∧ p < n ∧ τ 6 p = nI (48 + d) ∧ fX8_isFigure (nI p) τ = some 1 ∧ ∀ σ', σ' 13 1 = nI n → σ' 14 = σ 14 → σ' 13 5 = nI p → fX4_next σ' = some (nI (48 + d)) := by
  obtain ⟨t1, t2, t3, t4⟩ := ht
  by_cases c : p < n
  · have e : ∀ k, fX8_in (Int32.toInt64 k) 48 57 τ = some (z_W k 48 57) := fun k => z_in64 k 48 57 τ
    rcases w_digit (τ 6 p) with h | ⟨d, hd, h1, h2⟩
    · refine Or.inl ⟨?_, fun σ' g1 g2 g3 => ⟨_, w_next t3 g1 g3 hp, ?_⟩⟩
      · unfold fX8_isFigure
        rw [t2, if_neg (nI_ge c (by omega)), z_gi (n := 120) (by omega) (by decide), z_cl (by omega), e, z_p, if_pos h]
      · rw [if_pos c, g2, t4 p c]; exact h
    · refine Or.inr ⟨d, hd, c, h1, ?_, fun σ' g1 g2 g3 => ?_⟩
      · unfold fX8_isFigure
        rw [t2, if_neg (nI_ge c (by omega)), z_gi (n := 120) (by omega) (by decide), z_cl (by omega), e, z_p, h2, if_neg z_10]
      · rw [w_next t3 g1 g3 hp, if_pos c, g2, t4 p c, h1]
  · refine Or.inl ⟨?_, fun σ' g1 g2 g3 => ⟨_, w_next t3 g1 g3 hp, ?_⟩⟩
    · unfold fX8_isFigure
      rw [t2, if_pos (nI_le (by omega) (by omega))]
    · rw [if_neg c]; decide
/-- a fault is kept with its number e and its place q -/
def w_ft (σ0 τ0 σ τ : x_S) : Prop := ∃ e q, ¬ e = 0 ∧ σ 13 4 = e ∧ σ 13 2 = e ∧ σ 13 3 = q ∧ τ 0 14 = e ∧ τ 0 13 = q ∧ ∀ j, j ≠ 13 → j ≠ 14 → j ≠ 15 → τ 0 j = τ0 0 j
/-- none yet, the place is p -/
def w_lv (σ0 τ0 : x_S) (n p : Nat) (σ τ : x_S) : Prop := w_tp σ τ n ∧ p ≤ n ∧ σ 13 4 = 0 ∧ σ 13 5 = nI p ∧ τ 0 13 = nI p ∧ σ 13 2 = σ0 13 2 ∧ ∀ j, j ≠ 13 → j ≠ 14 → j ≠ 15 → τ 0 j = τ0 0 j
/-- the first fault, e at q -/
theorem w_failAt {σ : x_S} (h : σ 13 4 = 0) (q e : Int32) : ∃ σ', fX4_failAt q e σ = some σ' ∧ (∀ c, c ≠ 13 → σ' c = σ c) ∧ σ' 13 4 = e ∧ σ' 13 2 = e ∧ σ' 13 3 = q ∧ σ' 13 1 = σ 13 1 ∧ σ' 13 5 = σ 13 5 := by
  refine ⟨x_u (x_u (x_u σ 13 4 e) 13 2 e) 13 3 q, ?_, fun c hc => by rw [z_uk hc, z_uk hc, z_uk hc], ?_, ?_, z_us _ _ _ _, ?_, ?_⟩
  · unfold fX4_failAt
    rw [if_pos h, z_w, z_w, z_w]
  · rw [z_ui (by decide), z_ui (by decide), z_us]
  · rw [z_ui (by decide), z_us]
  · rw [z_ui (by decide), z_ui (by decide), z_ui (by decide)]
  · rw [z_ui (by decide), z_ui (by decide), z_ui (by decide)]
/-- a later one -/
theorem w_failD {σ : x_S} (h : ¬ σ 13 4 = 0) (q e : Int32) : fX4_failAt q e σ = some σ := by
  unfold fX4_failAt
  rw [if_neg h]
theorem w_refuse (τ : x_S) (e : Int32) : fX8_refuse e τ = some (0, x_u τ 0 14 e) := rfl
/-- a sign -/
theorem w_sign {σ0 τ0 σ τ : x_S} {n p : Nat} (h : w_lv σ0 τ0 n p σ τ) {a : Int32} (ha : ¬ (-1 : Int32) = a) : ∃ σ' r τ', fX4_readSign a σ = some σ' ∧ fX8_sign a τ = some (r, τ') ∧ (∀ c, c ≠ 13 → σ' c = σ c) ∧ (∀ c, c ≠ 0 → τ' c = τ c) ∧ ((r = 1 ∧ p < n ∧ w_lv σ0 τ0 n (p + 1) σ' τ') ∨ (r = 0 ∧ w_ft σ0 τ0 σ' τ')) := by
  obtain ⟨ht, hp, h4, h5, g5, h2, hj⟩ := h
  have hn := ht.2.2.1
  have hx := w_next hn ht.1 h5 (by omega)
  unfold fX4_readSign fX8_sign fX8_isLetter
  rw [hx, z_p, ht.2.1, g5]
  by_cases c : p < n
  · rw [if_neg (nI_ge c (by omega)), z_gi (n := 120) (by omega) (by decide), z_cl (by omega), if_pos c, ht.2.2.2 p c]
    by_cases c2 : τ 6 p = a
    · rw [if_pos c2, if_pos c2, z_p, if_neg z_10, z_w]
      refine ⟨x_u σ 13 5 (nI (p + 1)), 1, x_u τ 0 13 (nI p + 1), ?_, rfl, fun c hc => z_uk hc, fun c hc => z_uk hc, Or.inl ⟨rfl, c, w_tp_c ht (z_ui (by decide)) (z_uk (by decide)) (z_ui (by decide)) (z_uk (by decide)), by omega, ?_, z_us _ _ _ _, ?_, ?_, fun j h1 h2 h3 => ?_⟩⟩
      · unfold bX4_readSign_13
        rw [z_w, h5, nI_1]
      · rw [z_ui (by decide)]; exact h4
      · rw [z_us, nI_1]
      · rw [z_ui (by decide)]; exact h2
      · rw [z_ui h1]; exact hj j h1 h2 h3
    · rw [if_neg c2, if_neg c2, z_p, if_pos rfl, w_refuse, z_b]
      obtain ⟨σ1, s1, s2, s3, s4, s5, s6, s7⟩ := w_failAt h4 (σ 13 5) 1
      refine ⟨x_u σ1 13 5 (σ1 13 5 + 1), 0, x_u τ 0 14 1, ?_, rfl, fun c hc => (z_uk hc).trans (s2 c hc), fun c hc => z_uk hc, Or.inr ⟨rfl, 1, nI p, z_10, ?_, ?_, ?_, z_us _ _ _ _, ?_, fun j h1 h2 h3 => ?_⟩⟩
      · unfold fX4_fail bX4_readSign_13
        rw [s1]; rfl
      · rw [z_ui (by decide)]; exact s3
      · rw [z_ui (by decide)]; exact s4
      · rw [z_ui (by decide), s5]; exact h5
      · rw [z_ui (by decide)]; exact g5
      · rw [z_ui h2]; exact hj j h1 h2 h3
  · rw [if_pos (nI_le (by omega) (by omega)), if_neg c, if_neg ha, z_p, if_pos rfl, w_refuse, z_b]
    obtain ⟨σ1, s1, s2, s3, s4, s5, s6, s7⟩ := w_failAt h4 (σ 13 5) 1
    refine ⟨x_u σ1 13 5 (σ1 13 5 + 1), 0, x_u τ 0 14 1, ?_, rfl, fun c hc => (z_uk hc).trans (s2 c hc), fun c hc => z_uk hc, Or.inr ⟨rfl, 1, nI p, z_10, ?_, ?_, ?_, z_us _ _ _ _, ?_, fun j h1 h2 h3 => ?_⟩⟩
    · unfold fX4_fail bX4_readSign_13
      rw [s1]; rfl
    · rw [z_ui (by decide)]; exact s3
    · rw [z_ui (by decide)]; exact s4
    · rw [z_ui (by decide), s5]; exact h5
    · rw [z_ui (by decide)]; exact g5
    · rw [z_ui h2]; exact hj j h1 h2 h3
