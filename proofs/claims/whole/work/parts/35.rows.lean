/-! ===== pure: row, set, drop ===== -/
theorem z_loopS {α β : Type} {z : Int32 → α → Option β} {b : (Int32 → α → Option β) → Int32 → α → Option β} {N : Nat} {f : Nat → α → α} {r : α → Option β} (hs : ∀ K a i, i < N → b K (nI i) a = K (nI (i + 1)) (f i a)) (he : ∀ K a, b K (nI N) a = r a) :
    ∀ d n i a, i + d = N → d < n → x_fx z b n (nI i) a = r (z_fold f i d a) := by
  intro d
  induction d with
  | zero =>
    intro n i a hi hn
    cases n with
    | zero => exact absurd hn (by omega)
    | succ n =>
      show b (x_fx z b n) (nI i) a = _
      rw [show i = N by omega, he]
      rfl
  | succ d ih =>
    intro n i a hi hn
    cases n with
    | zero => exact absurd hn (by omega)
    | succ n =>
      show b (x_fx z b n) (nI i) a = _
      rw [hs _ _ _ (by omega), ih n (i + 1) _ (by omega) (by omega)]
      rfl
/-- places b + i of row k are set to v -/
theorem z_fold_0 (k b : Nat) (v : Int32) : ∀ (d i : Nat) (σ : x_S), (∀ c, c ≠ k → z_fold (fun i σ => x_u σ k (b + i) v) i d σ c = σ c) ∧ (∀ j, (j < b + i ∨ b + (i + d) ≤ j) → z_fold (fun i σ => x_u σ k (b + i) v) i d σ k j = σ k j) ∧ ∀ t, i ≤ t → t < i + d → z_fold (fun i σ => x_u σ k (b + i) v) i d σ k (b + t) = v := by
  intro d
  induction d with
  | zero => intro i σ; exact ⟨fun _ _ => rfl, fun _ _ => rfl, fun t h1 h2 => absurd h2 (by omega)⟩
  | succ d ih =>
    intro i σ
    obtain ⟨h1, h2, h3⟩ := ih (i + 1) (x_u σ k (b + i) v)
    refine ⟨fun c hc => (h1 c hc).trans (z_uk hc), fun j hj => (h2 j (by omega)).trans (z_ui (by omega)), fun t ht1 ht2 => ?_⟩
    by_cases e : t = i
    · subst e
      exact (h2 (b + t) (by omega)).trans (z_us _ _ _ _)
    · exact h3 t (by omega) (by omega)
/-- places a + i of row k are copied to b + i, upwards -/
theorem z_fold_cp (k a b N : Nat) (hab : b ≤ a ∨ a + N ≤ b) : ∀ (d i : Nat) (σ : x_S), i + d = N → (∀ c, c ≠ k → z_fold (fun i σ => x_u σ k (b + i) (σ k (a + i))) i d σ c = σ c) ∧ (∀ j, (j < b + i ∨ b + N ≤ j) → z_fold (fun i σ => x_u σ k (b + i) (σ k (a + i))) i d σ k j = σ k j) ∧ ∀ t, i ≤ t → t < N → z_fold (fun i σ => x_u σ k (b + i) (σ k (a + i))) i d σ k (b + t) = σ k (a + t) := by
  intro d
  induction d with
  | zero => intro i σ hi; exact ⟨fun _ _ => rfl, fun _ _ => rfl, fun t h1 h2 => absurd h2 (by omega)⟩
  | succ d ih =>
    intro i σ hi
    obtain ⟨h1, h2, h3⟩ := ih (i + 1) (x_u σ k (b + i) (σ k (a + i))) (by omega)
    refine ⟨fun c hc => (h1 c hc).trans (z_uk hc), fun j hj => (h2 j (by omega)).trans (z_ui (by omega)), fun t ht1 ht2 => ?_⟩
    by_cases e : t = i
    · subst e
      exact (h2 (b + t) (by omega)).trans (z_us _ _ _ _)
    · exact (h3 t (by omega) ht2).trans (z_ui (by omega))
theorem z_lay {σ : x_S} {r : Nat} (hr : r < 8) (a2 a3 : Int32) : ∃ σ', fX5_lay (nI r) a2 a3 σ = some σ' ∧ (∀ k, k ≠ 11 → k ≠ 12 → k ≠ 3 + r → σ' k = σ k) ∧ (∀ j, j ≠ r → σ' 11 j = σ 11 j ∧ σ' 12 j = σ 12 j) ∧ σ' 11 r = a3 ∧ σ' 12 r = a2 ∧ ∀ i, i < 40 → σ' (3 + r) i = 0 := by
  obtain ⟨h1, h2, h3⟩ := z_fold_0 (3 + r) 0 0 40 0 (x_u (x_u σ 11 r a3) 12 r a2)
  refine ⟨_, ?_, fun k k1 k2 k3 => (h1 k k3).trans ((z_uk k2).trans (z_uk k1)), fun j hj => ⟨?_, ?_⟩, ?_, ?_, fun i hi => ?_⟩
  · unfold fX5_lay bX5_lay_17
    rw [z_gi hr (by decide), z_w, z_gi hr (by decide), z_w, z_cl (by omega)]
    refine (z_loopS (N := 40) (r := fun a => some a) (f := fun i σ => x_u σ (3 + r) (0 + i) 0) (fun K a i hi => ?_) (fun K a => ?_) 40 x_F 0 _ (by omega) (z_fuel (by omega)))
    · show gX5_lay_17 (nI r) K (nI i) a = _
      unfold gX5_lay_17
      rw [if_neg (fun z => by have := (z_geL (a := i) (y := (40 : Int32)) 40 rfl (by omega) (by decide)).mp z; omega), z_gi hr (by decide), z_gi (n := 40) hi (by decide), z_w, z_cl (by omega), z_cl (by omega), nI_1, Nat.zero_add]
    · show gX5_lay_17 (nI r) K (nI 40) a = _
      unfold gX5_lay_17
      rw [if_pos (by decide)]
  · rw [h1 11 (by omega), z_uk (by decide), z_ui hj]
  · rw [h1 12 (by omega), z_ui hj, z_uk (by decide)]
  · rw [h1 11 (by omega), z_uk (by decide), z_us]
  · rw [h1 12 (by omega), z_us]
  · have := h3 i (by omega) (by omega)
    rwa [Nat.zero_add] at this
theorem z_Mlay {τ : x_S} {r : Nat} (hr : r < 8) (a3 : Int32) : ∃ τ', bX8_row_55 (nI r) a3 0 τ = some (a3, τ') ∧ (∀ k, k ≠ 0 → k ≠ 5 → τ' k = τ k) ∧ (∀ j, j ≠ 10 → τ' 0 j = τ 0 j) ∧ τ' 0 10 = 0 ∧ (∀ j, (j < 40 * r ∨ 40 * r + 40 ≤ j) → τ' 5 j = τ 5 j) ∧ ∀ i, i < 40 → τ' 5 (40 * r + i) = 0 := by
  obtain ⟨h1, h2, h3⟩ := z_fold_0 5 (40 * r) 0 40 0 τ
  refine ⟨x_u (z_fold (fun i σ => x_u σ 5 (40 * r + i) 0) 0 40 τ) 0 10 0, ?_, fun k k1 k2 => (z_uk k1).trans (h1 k k2), fun j hj => (z_ui hj).trans (congrFun (h1 0 (by decide)) j), z_us _ _ _ _, fun j hj => ?_, fun i hi => ?_⟩
  · unfold bX8_row_55
    refine (z_loopS (N := 40) (r := fun a => some (a3, x_u a 0 10 0)) (f := fun i σ => x_u σ 5 (40 * r + i) 0) (fun K a i hi => ?_) (fun K a => ?_) 40 x_F 0 _ (by omega) (z_fuel (by omega)))
    · show gX8_row_55 (nI r) a3 K (nI i) a = _
      unfold gX8_row_55
      rw [if_neg (fun z => by have := (z_geL (a := i) (y := (40 : Int32)) 40 rfl (by omega) (by decide)).mp z; omega), show (40 : Int32) * nI r + nI i = nI (40 * r + i) by rw [show (40 : Int32) = nI 40 from rfl, pk_mul, nI_add], z_gi (n := 320) (by omega) (by decide), z_w, z_cl (by omega), nI_1]
    · show gX8_row_55 (nI r) a3 K (nI 40) a = _
      unfold gX8_row_55
      rw [if_pos (by decide), z_well, z_b]
  · rw [z_uk (by decide)]
    exact h2 j (by omega)
  · rw [z_uk (by decide)]
    exact h3 i (by omega) (by omega)
theorem z_W3 {x : Int32} {n : Nat} (hn : n < 2 ^ 31) (h : ¬ z_W x 0 (nI n) = 0) : ∃ j, j ≤ n ∧ x = nI j := by
  rcases z_W_ix x n hn with q | ⟨j, hj, e, -⟩
  · exact absurd q h
  · exact ⟨j, hj, e⟩
/-- row -/
theorem o_row {σ τ : x_S} (h : z_Rel σ τ) (a1 a2 a3 : Int32) : z_op (fX7_row a1 a2 a3 σ) (fX8_row a1 a2 a3 τ) z_Rel := by
  unfold z_op fX7_row fX8_row
  rcases z_isRow a1 σ τ with ⟨h1, h2⟩ | ⟨r, hr, rfl, h1, h2⟩
  · rw [h1, h2, z_p, z_p, if_pos rfl, if_pos rfl]
    exact ⟨_, _, _, rfl, rfl, h⟩
  · rw [h1, h2, z_p, z_p, if_neg z_10, if_neg z_10, z_isWithin, show (0 : Int64) = (0 : Int32).toInt64 from rfl, show (2 : Int64) = (2 : Int32).toInt64 from rfl, z_in64, z_p, z_p]
    by_cases q : z_W a2 0 2 = 0
    · rw [if_pos q, if_pos q]
      exact ⟨_, _, _, rfl, rfl, h⟩
    · rw [if_neg q, if_neg q]
      obtain ⟨ln, hln, rfl⟩ := z_W3 (n := 2) (by decide) q
      by_cases q3 : a3 ≤ 40
      · rw [if_pos q3, if_pos q3]
        by_cases q4 : 0 ≤ a3
        · rw [if_pos q4, if_pos q4]
          obtain ⟨n, hn, rfl⟩ := nI_of (Int32.not_lt.mpr q4)
          have hn40 : n ≤ 40 := (nI_leI hn (by decide)).mp q3
          obtain ⟨σ', e1, g1, g2, g3, g4, g5⟩ := z_lay (σ := σ) hr (nI ln) (nI n)
          rw [e1, z_v, z_fno, z_b, z_gi hr (by decide), z_w, z_gi hr (by decide), z_w, z_cl (by omega)]
          obtain ⟨τ', e2, m1, m2, m3, m4, m5⟩ := z_Mlay (τ := x_u (x_u τ 3 r (nI ln)) 4 r (nI n)) hr (nI n)
          rw [e2]
          refine ⟨_, _, _, rfl, rfl, z_Rel_rows h (by show x_u σ' 0 8 0 0 8 = τ' 0 10; rw [z_us, m3]) (fun r' hr' => ?_) (fun k hk => (z_uk (by omega)).trans (g1 k (by omega) (by omega) (by omega))) (fun k hk => (m1 k (by omega) (by omega)).trans ((z_uk (by omega)).trans (z_uk (by omega)))) (fun j hj => (m2 j hj).trans ((congrFun (z_uk (by decide)) j).trans (congrFun (z_uk (by decide)) j)))⟩
          have u : ∀ k, k ≠ 0 → x_u σ' 0 8 0 k = σ' k := fun k hk => z_uk hk
          obtain ⟨⟨l9, w1, w2, w3⟩, w4, w5⟩ := h.2.1 r' hr'
          by_cases e : r' = r
          · subst e
            refine ⟨⟨ln, hln, by rw [u 12 (by decide)]; exact g4, ?_⟩, Or.inr ⟨n, hn40, by rw [u 11 (by decide)]; exact g3, ?_⟩, fun i hi => ?_⟩
            · rw [m1 3 (by decide) (by decide), z_uk (by decide), z_us]
            · rw [m1 4 (by decide) (by decide), z_us]
            · rw [u _ (by omega), g5 i hi, m5 i hi]
          · refine ⟨⟨l9, w1, ?_, ?_⟩, ?_, fun i hi => ?_⟩
            · rw [u 12 (by decide), (g2 r' e).2]; exact w2
            · rw [m1 3 (by decide) (by decide), z_uk (by decide), z_ui e]; exact w3
            · rw [u 11 (by decide), (g2 r' e).1, m1 4 (by decide) (by decide), z_ui e, z_uk (by decide)]; exact w4
            · rw [u _ (by omega), g1 (3 + r') (by omega) (by omega) (by omega), m4 (40 * r' + i) (by omega), z_uk (by decide), z_uk (by decide)]; exact w5 i hi
        · rw [if_neg q4, if_neg q4, z_found, z_find, z_b, z_b]
          exact ⟨_, _, _, rfl, rfl, z_Rel_st h 4⟩
      · rw [if_neg q3, if_neg q3]
        exact ⟨_, _, _, rfl, rfl, h⟩
/-- drop -/
theorem r_drop {σ τ : x_S} (h : z_Rel σ τ) (a1 : Int32) : z_op (fX7_drop a1 σ) (fX8_drop a1 τ) z_Rel := by
  obtain ⟨r, σ', τ', e1, e2, h3⟩ := o_drop h.2.1 a1
  refine ⟨r, σ', τ', e1, e2, ?_⟩
  rcases h3 with ⟨rfl, rfl⟩ | ⟨k, rfl, rfl⟩ | ⟨r, hr, k, rfl, rfl⟩
  · exact h
  · exact z_Rel_st h k
  · refine z_Rel_rows h (by show x_u (x_u σ 11 r (-1)) 0 8 k 0 8 = x_u (x_u τ 4 r (-1)) 0 10 k 0 10; rw [z_us, z_us]) (fun r' hr' => ?_) (fun k hk => (z_uk (by omega)).trans (z_uk (by omega))) (fun k hk => (z_uk (by omega)).trans (z_uk (by omega))) (fun j hj => (z_ui hj).trans (congrFun (z_uk (by decide)) j))
    have u1 : ∀ c, c ≠ 0 → x_u (x_u σ 11 r (-1)) 0 8 k c = x_u σ 11 r (-1) c := fun c hc => z_uk hc
    have u2 : ∀ c, c ≠ 0 → x_u (x_u τ 4 r (-1)) 0 10 k c = x_u τ 4 r (-1) c := fun c hc => z_uk hc
    have n1 : ∀ c, c ≠ 11 → x_u σ 11 r (-1) c = σ c := fun c hc => z_uk hc
    have n2 : ∀ c, c ≠ 4 → x_u τ 4 r (-1) c = τ c := fun c hc => z_uk hc
    obtain ⟨⟨l9, w1, w2, w3⟩, w4, w5⟩ := h.2.1 r' hr'
    refine ⟨⟨l9, w1, ?_, ?_⟩, ?_, fun i hi => ?_⟩
    · rw [u1 12 (by decide), n1 12 (by decide)]; exact w2
    · rw [u2 3 (by decide), n2 3 (by decide)]; exact w3
    · rw [u1 11 (by decide), u2 4 (by decide)]
      by_cases e : r' = r
      · subst e; rw [z_us, z_us]; exact Or.inl ⟨rfl, rfl⟩
      · rw [z_ui e, z_ui e]; exact w4
    · rw [u1 _ (by omega), n1 _ (by omega), u2 5 (by decide), n2 5 (by decide)]; exact w5 i hi
