/-! ===== pure: city, behind a fault ===== -/
/-- nothing but the reader's cells has changed -/
def w_fr (σ0 τ0 σ τ : x_S) : Prop := (∀ c, c ≠ 13 → (c < 40 ∨ 48 ≤ c) → σ c = σ0 c) ∧ (∀ c, c ≠ 0 → c ≠ 1 → τ c = τ0 c) ∧ (∀ j, j < 1323 → τ 1 j = τ0 1 j)
def w_D0 (σ0 τ0 τ σ : x_S) : Prop := w_ft σ0 τ0 σ τ ∧ w_fr σ0 τ0 σ τ
def w_D (σ0 τ0 τ : x_S) (a b : Nat) (σ : x_S) : Prop := w_ft σ0 τ0 σ τ ∧ w_fr σ0 τ0 σ τ ∧ σ 40 3 = nI a ∧ σ 40 5 = nI b
theorem w_ft_c {σ0 τ0 σ τ σ' : x_S} (h : w_ft σ0 τ0 σ τ) (h1 : ∀ j, j ≠ 5 → σ' 13 j = σ 13 j) : w_ft σ0 τ0 σ' τ := by
  obtain ⟨e, q, a, b, c, d, f⟩ := h
  exact ⟨e, q, a, (h1 4 (by decide)).trans b, (h1 2 (by decide)).trans c, (h1 3 (by decide)).trans d, f⟩
theorem w_fr_c {σ0 τ0 σ τ σ' : x_S} (h : w_fr σ0 τ0 σ τ) (h1 : ∀ c, c ≠ 13 → (c < 40 ∨ 48 ≤ c) → σ' c = σ c) : w_fr σ0 τ0 σ' τ := ⟨fun c a b => (h1 c a b).trans (h.1 c a b), h.2⟩
theorem w_fr_d {σ0 τ0 σ τ τ' : x_S} (h : w_fr σ0 τ0 σ τ) (h1 : ∀ c, c ≠ 0 → c ≠ 1 → τ' c = τ c) (h2 : ∀ j, j < 1323 → τ' 1 j = τ 1 j) : w_fr σ0 τ0 σ τ' := ⟨h.1, fun c a b => (h1 c a b).trans (h.2.1 c a b), fun j a => (h2 j a).trans (h.2.2 j a)⟩
theorem w_ftn {σ0 τ0 σ τ : x_S} (h : w_ft σ0 τ0 σ τ) : ¬ σ 13 4 = 0 := by
  obtain ⟨e, q, a, b, -⟩ := h
  rw [b]; exact a
theorem w_ov {o : Option x_S} {k : x_S → Option x_S} {P Q : x_S → Prop} (h : ∃ s, o = some s ∧ P s) (hk : ∀ s, P s → ∃ t, k s = some t ∧ Q t) : ∃ t, x_v o k = some t ∧ Q t := by
  obtain ⟨s, rfl, hp⟩ := h
  exact hk s hp
theorem w_ob {o : Option (Int32 × x_S)} {k : Int32 → x_S → Option x_S} {P Q : x_S → Prop} (h : ∃ x s, o = some (x, s) ∧ P s) (hk : ∀ x s, P s → ∃ t, k x s = some t ∧ Q t) : ∃ t, x_b o k = some t ∧ Q t := by
  obtain ⟨x, s, rfl, hp⟩ := h
  exact hk x s hp
theorem w_signT {σ : x_S} (h : ¬ σ 13 4 = 0) (a : Int32) : ∃ σ', fX4_readSign a σ = some σ' ∧ (∀ c, c ≠ 13 → σ' c = σ c) ∧ (∀ j, j ≠ 5 → σ' 13 j = σ 13 j) := by
  obtain ⟨y, hy⟩ := w_nextT σ
  refine ⟨x_u σ 13 5 (σ 13 5 + 1), ?_, fun c hc => z_uk hc, fun j hj => z_ui hj⟩
  unfold fX4_readSign fX4_fail bX4_readSign_13
  rw [hy, z_p, w_failD h]
  by_cases c : y = a
  · rw [if_pos c]; rfl
  · rw [if_neg c]; rfl
theorem w_numT {σ : x_S} (h : ¬ σ 13 4 = 0) (lo hi : Int32) : ∃ x σ', fX4_readNumber lo hi σ = some (x, σ') ∧ (∀ c, c ≠ 13 → σ' c = σ c) ∧ (∀ j, j ≠ 5 → σ' 13 j = σ 13 j) := by
  obtain ⟨x3, x4, σ', r1, r2, r3, -⟩ := w_run lo hi (σ 13 5) 120 0 x_F 0 0 σ (by decide) (z_fuel (by decide))
  have h' : ¬ σ' 13 4 = 0 := by rw [r3 4 (by decide)]; exact h
  have e88 : bX4_readNumber_88 x4 (σ 13 5) σ' = some (x4, σ') := by
    unfold bX4_readNumber_88
    rw [w_failD h']
    rfl
  refine ⟨x4, σ', Eq.trans (show fX4_readNumber lo hi σ = _ from r1) ?_, r2, r3⟩
  unfold bX4_readNumber_79
  by_cases c1 : x3 = 0
  · rw [if_pos c1]; exact e88
  · rw [if_neg c1]
    by_cases c2 : x3 ≤ 2
    · rw [if_pos c2, z_isWithin, z_p, w_failD h']
      by_cases c3 : z_W x4 lo hi = 0
      · rw [if_pos c3]; rfl
      · rw [if_neg c3]
    · rw [if_neg c2]; exact e88
theorem w_D0sign {σ0 τ0 τ σ : x_S} (h : w_D0 σ0 τ0 τ σ) (a : Int32) : ∃ σ', fX4_readSign a σ = some σ' ∧ w_D0 σ0 τ0 τ σ' := by
  obtain ⟨σ', s1, s2, s3⟩ := w_signT (w_ftn h.1) a
  exact ⟨σ', s1, w_ft_c h.1 s3, w_fr_c h.2 (fun c hc _ => s2 c hc)⟩
theorem w_D0num {σ0 τ0 τ σ : x_S} (h : w_D0 σ0 τ0 τ σ) (lo hi : Int32) : ∃ x σ', fX4_readNumber lo hi σ = some (x, σ') ∧ w_D0 σ0 τ0 τ σ' := by
  obtain ⟨x, σ', s1, s2, s3⟩ := w_numT (w_ftn h.1) lo hi
  exact ⟨x, σ', s1, w_ft_c h.1 s3, w_fr_c h.2 (fun c hc _ => s2 c hc)⟩
theorem w_Dsign {σ0 τ0 τ σ : x_S} {a b : Nat} (h : w_D σ0 τ0 τ a b σ) (k : Int32) : ∃ σ', fX4_readSign k σ = some σ' ∧ w_D σ0 τ0 τ a b σ' := by
  obtain ⟨σ', s1, s2, s3⟩ := w_signT (w_ftn h.1) k
  exact ⟨σ', s1, w_ft_c h.1 s3, w_fr_c h.2.1 (fun c hc _ => s2 c hc), by rw [s2 40 (by decide)]; exact h.2.2.1, by rw [s2 40 (by decide)]; exact h.2.2.2⟩
theorem w_Dnum {σ0 τ0 τ σ : x_S} {a b : Nat} (h : w_D σ0 τ0 τ a b σ) (lo hi : Int32) : ∃ x σ', fX4_readNumber lo hi σ = some (x, σ') ∧ w_D σ0 τ0 τ a b σ' := by
  obtain ⟨x, σ', s1, s2, s3⟩ := w_numT (w_ftn h.1) lo hi
  exact ⟨x, σ', s1, w_ft_c h.1 s3, w_fr_c h.2.1 (fun c hc _ => s2 c hc), by rw [s2 40 (by decide)]; exact h.2.2.1, by rw [s2 40 (by decide)]; exact h.2.2.2⟩
theorem w_Dw {σ0 τ0 τ σ : x_S} {a b : Nat} (h : w_D σ0 τ0 τ a b σ) {c : Nat} (hc : 41 ≤ c ∧ c ≤ 47) (i : Nat) (x : Int32) : w_D σ0 τ0 τ a b (x_u σ c i x) := by
  refine ⟨w_ft_c h.1 (fun j _ => by rw [z_uk (by omega)]), w_fr_c h.2.1 (fun k _ hk => z_uk (by omega)), ?_, ?_⟩
  · rw [z_uk (by omega)]; exact h.2.2.1
  · rw [z_uk (by omega)]; exact h.2.2.2
/-- a street's end, a gesture's end -/
theorem w_Dst {σ0 τ0 τ σ : x_S} {a b : Nat} (h : w_D σ0 τ0 τ a b σ) : w_D σ0 τ0 τ (a + 1) b (x_u σ 40 3 (σ 40 3 + 1)) := by
  refine ⟨w_ft_c h.1 (fun j _ => by rw [z_uk (by decide)]), w_fr_c h.2.1 (fun k _ hk => z_uk (by omega)), ?_, ?_⟩
  · rw [z_us, h.2.2.1, nI_1]
  · rw [z_ui (by decide)]; exact h.2.2.2
theorem w_Dge {σ0 τ0 τ σ : x_S} {a b : Nat} (h : w_D σ0 τ0 τ a b σ) : w_D σ0 τ0 τ a (b + 1) (x_u σ 40 5 (σ 40 5 + 1)) := by
  refine ⟨w_ft_c h.1 (fun j _ => by rw [z_uk (by decide)]), w_fr_c h.2.1 (fun k _ hk => z_uk (by omega)), ?_, ?_⟩
  · rw [z_ui (by decide)]; exact h.2.2.1
  · rw [z_us, h.2.2.2, nI_1]
theorem w_begin (a : Int32) (σ : x_S) : ∃ σ', fX2_begin 40 a σ = some σ' ∧ (∀ c, c ≠ 40 → σ' c = σ c) ∧ σ' 40 0 = 1 ∧ σ' 40 1 = a ∧ σ' 40 2 = 0 ∧ σ' 40 3 = 0 ∧ σ' 40 4 = 0 ∧ σ' 40 5 = 0 := by
  refine ⟨_, rfl, fun c hc => ?_, ?_, ?_, ?_, ?_, ?_, ?_⟩
  · rw [z_uk hc, z_uk hc, z_uk hc, z_uk hc, z_uk hc, z_uk hc]
  · rw [z_ui (by decide), z_ui (by decide), z_ui (by decide), z_ui (by decide), z_ui (by decide), z_us]
  · rw [z_ui (by decide), z_ui (by decide), z_ui (by decide), z_ui (by decide), z_us]
  · rw [z_ui (by decide), z_ui (by decide), z_ui (by decide), z_us]
  · rw [z_ui (by decide), z_ui (by decide), z_us]
  · rw [z_ui (by decide), z_us]
  · rw [z_us]
