/-! ===== pure: rows ===== -/
/-- rows agree -/
def z_rw (σ τ : x_S) (r : Nat) : Prop := (∃ ln, ln ≤ 2 ∧ σ 12 r = nI ln ∧ τ 3 r = nI ln) ∧ ((σ 11 r = -1 ∧ τ 4 r = -1) ∨ ∃ n, n ≤ 40 ∧ σ 11 r = nI n ∧ τ 4 r = nI n) ∧ ∀ i, i < 40 → σ (3 + r) i = τ 5 (40 * r + i)
def z_rows (σ τ : x_S) : Prop := ∀ r, r < 8 → z_rw σ τ r
def z_st (σ τ : x_S) : Prop := σ 0 8 = τ 0 10
theorem z_isRow (a : Int32) (σ τ : x_S) : (fX5_isRow a σ = some 0 ∧ fX8_isRow a τ = some 0) ∨ ∃ r, r < 8 ∧ a = nI r ∧ fX5_isRow a σ = some 1 ∧ fX8_isRow a τ = some 1 := by
  unfold fX5_isRow fX8_isRow
  rw [show (0 : Int64) = (0 : Int32).toInt64 from rfl, show (7 : Int64) = (nI 8 - 1 : Int32).toInt64 from rfl, z_in64, z_p, z_g (z_Wand _ _ _)]
  rcases z_is a (n := 8) (by decide) with ⟨h1, h2⟩ | ⟨g, hg, e, h1, h2⟩
  · exact Or.inl ⟨h1, by rw [h2]⟩
  · exact Or.inr ⟨g, hg, e, h1, by rw [h2]⟩
theorem z_found (k : Int32) (σ : x_S) : fX7_found k σ = some (-1000010 - k, x_u σ 0 8 k) := rfl
theorem z_find (k : Int32) (τ : x_S) : fX8_find k τ = some (-1000010 - k, x_u τ 0 10 k) := rfl
theorem z_fno (k : Int32) (σ : x_S) : fX7_foundNothing k σ = some (k, x_u σ 0 8 0) := rfl
theorem z_well (k : Int32) (τ : x_S) : fX8_well k τ = some (k, x_u τ 0 10 0) := rfl
/-- what an answer with a finding changes: the status alone -/
def z_fs (σ τ σ' τ' : x_S) : Prop := ∃ k, σ' = x_u σ 0 8 k ∧ τ' = x_u τ 0 10 k
theorem z_fs_st {σ τ σ' τ' : x_S} (h : z_fs σ τ σ' τ') : z_st σ' τ' := by
  obtain ⟨k, rfl, rfl⟩ := h
  show x_u σ 0 8 k 0 8 = x_u τ 0 10 k 0 10
  rw [z_us, z_us]
/-- all but the status is as it was -/
def z_sm (σ σ' : x_S) (i : Nat) : Prop := (∀ k, k ≠ 0 → σ' k = σ k) ∧ ∀ j, j ≠ i → σ' 0 j = σ 0 j
theorem z_sm_u (σ : x_S) (i : Nat) (k : Int32) : z_sm σ (x_u σ 0 i k) i := ⟨fun a h => z_uk h, fun j h => z_ui h⟩
theorem z_len {σ τ : x_S} {r : Nat} (h : z_rw σ τ r) : (σ 11 r = -1 ∧ τ 4 r = -1) ∨ ∃ n, n ≤ 40 ∧ σ 11 r = nI n ∧ τ 4 r = nI n := h.2.1
theorem z_n1 {n : Nat} (h : n < 65536) : ¬ (nI n = -1) := by
  intro e
  have h1 : (nI n).toInt = (n : Int) := nI_toInt (by omega)
  rw [e] at h1
  have h2 : ((-1 : Int32)).toInt = -1 := by decide
  rw [h2] at h1
  omega
theorem z_isMissing {σ τ : x_S} {r : Nat} (hr : r < 8) (h : z_rw σ τ r) : (fX5_isMissing (nI r) σ = some 1 ∧ τ 4 r = -1) ∨ ∃ n, n ≤ 40 ∧ σ 11 r = nI n ∧ τ 4 r = nI n ∧ fX5_isMissing (nI r) σ = some 0 := by
  unfold fX5_isMissing
  rw [z_gi hr (by decide), z_cl (by omega)]
  rcases z_len h with ⟨h1, h2⟩ | ⟨n, hn, h1, h2⟩
  · exact Or.inl ⟨by rw [h1, if_pos rfl], h2⟩
  · exact Or.inr ⟨n, hn, h1, h2, by rw [h1, if_neg (z_n1 (by omega))]⟩
/-- reaches, isSpan -/
def z_reach (i n : Int32) (m : Nat) : Prop := ∃ a b : Nat, i = nI a ∧ n = nI b ∧ a + b ≤ m
theorem z_Sreach {σ : x_S} {r m : Nat} (hr : r < 8) (hm : m ≤ 40) (h : σ 11 r = nI m) (i n : Int32) : (fX5_reaches (nI r) i n σ = some 1 ∧ z_reach i n m) ∨ (fX5_reaches (nI r) i n σ = some 0 ∧ ¬ z_reach i n m) := by
  unfold fX5_reaches
  rw [z_gi hr (by decide), z_gi hr (by decide), z_cl (by omega), h]
  by_cases h1 : i < 0
  · rw [if_pos h1]
    refine Or.inr ⟨rfl, ?_⟩
    rintro ⟨a, b, rfl, rfl, hab⟩
    exact nI_pos (by omega) h1
  · rw [if_neg h1]
    obtain ⟨a, ha, rfl⟩ := nI_of h1
    by_cases h2 : n < 0
    · rw [if_pos h2]
      refine Or.inr ⟨rfl, ?_⟩
      rintro ⟨a', b, -, rfl, hab⟩
      exact nI_pos (by omega) h2
    · rw [if_neg h2]
      obtain ⟨b, hb, rfl⟩ := nI_of h2
      have inj : ∀ {x y : Nat}, x < 2 ^ 31 → y < 2 ^ 31 → nI x = nI y → x = y := fun hx hy e => (nI_eq hx hy).mp e
      by_cases h3 : m < b
      · rw [if_pos (nI_lt h3 hb)]
        refine Or.inr ⟨rfl, ?_⟩
        rintro ⟨a', b', ea, eb, hab⟩
        have := inj hb (by omega) eb
        omega
      · rw [if_neg (nI_nlt (by omega) (by omega)), pk_sub (by omega)]
        by_cases h4 : m - b < a
        · rw [if_pos (nI_lt h4 ha)]
          refine Or.inr ⟨rfl, ?_⟩
          rintro ⟨a', b', ea, eb, hab⟩
          have := inj hb (by omega) eb
          have := inj ha (by omega) ea
          omega
        · rw [if_neg (nI_nlt (by omega) (by omega))]
          exact Or.inl ⟨rfl, a, b, rfl, rfl, by omega⟩
theorem z_64 {n : Nat} (h : n < 2 ^ 31) : (nI n).toInt64 = lN n := nI_l h
theorem z_Mreach {τ : x_S} {r m : Nat} (hr : r < 8) (hm : m ≤ 40) (h : τ 4 r = nI m) (i n : Int32) : (fX8_isSpan (nI r) i n τ = some 1 ∧ z_reach i n m) ∨ (fX8_isSpan (nI r) i n τ = some 0 ∧ ¬ z_reach i n m) := by
  unfold fX8_isSpan
  rw [z_gi hr (by decide), z_cl (by omega), h]
  by_cases h1 : i < 0
  · rw [if_pos h1]
    refine Or.inr ⟨rfl, ?_⟩
    rintro ⟨a, b, rfl, rfl, hab⟩
    exact nI_pos (by omega) h1
  · rw [if_neg h1]
    obtain ⟨a, ha, rfl⟩ := nI_of h1
    by_cases h2 : n < 0
    · rw [if_pos h2]
      refine Or.inr ⟨rfl, ?_⟩
      rintro ⟨a', b, -, rfl, hab⟩
      exact nI_pos (by omega) h2
    · rw [if_neg h2]
      obtain ⟨b, hb, rfl⟩ := nI_of h2
      rw [z_64 ha, z_64 hb, z_64 (by omega), lN_add]
      by_cases h3 : m < a + b
      · rw [if_pos ((z_cmp_gt _ _).mpr ((pk_lLT (by omega) (by omega)).mpr h3))]
        refine Or.inr ⟨rfl, ?_⟩
        rintro ⟨a', b', ea, eb, hab⟩
        have := (nI_eq hb (by omega)).mp eb
        have := (nI_eq ha (by omega)).mp ea
        omega
      · rw [if_neg (fun q => h3 ((pk_lLT (by omega) (by omega)).mp ((z_cmp_gt _ _).mp q)))]
        exact Or.inl ⟨rfl, a, b, rfl, rfl, by omega⟩
/-- an op's result: the answers are one, the worlds are as the relation asks -/
def z_op (x : Option (Int32 × x_S)) (y : Option (Int32 × x_S)) (P : x_S → x_S → Prop) : Prop := ∃ r σ' τ', x = some (r, σ') ∧ y = some (r, τ') ∧ P σ' τ'
/-- drop -/
theorem o_drop {σ τ : x_S} (h : z_rows σ τ) (a1 : Int32) : z_op (fX7_drop a1 σ) (fX8_drop a1 τ) (fun σ' τ' => (σ' = σ ∧ τ' = τ) ∨ z_fs σ τ σ' τ' ∨ ∃ r, r < 8 ∧ z_fs (x_u σ 11 r (-1)) (x_u τ 4 r (-1)) σ' τ') := by
  unfold z_op fX7_drop fX8_drop
  rcases z_isRow a1 σ τ with ⟨h1, h2⟩ | ⟨r, hr, rfl, h1, h2⟩
  · rw [h1, h2, z_p, z_p, if_pos rfl, if_pos rfl]
    exact ⟨_, _, _, rfl, rfl, Or.inl ⟨rfl, rfl⟩⟩
  · rw [h1, h2, z_p, z_p, if_neg z_10, if_neg z_10, z_gi hr (by decide), z_gi hr (by decide), z_gi hr (by decide), z_cl (by omega)]
    rcases z_isMissing hr (h r hr) with ⟨e1, e2⟩ | ⟨n, hn, e1, e2, e3⟩
    · rw [e1, e2, z_p, if_neg z_10, if_neg (by decide), z_found, z_find]
      exact ⟨_, _, _, rfl, rfl, Or.inr (Or.inl ⟨1, rfl, rfl⟩)⟩
    · rw [e3, z_p, if_pos rfl, e2, if_pos (nI_pos' (by omega))]
      unfold fX5_takeAway
      rw [z_gi hr (by decide), z_gi hr (by decide), z_cl (by omega), e1, z_w, z_w, z_b, z_fno, z_well]
      exact ⟨_, _, _, rfl, rfl, Or.inr (Or.inr ⟨r, hr, 0, rfl, rfl⟩)⟩
