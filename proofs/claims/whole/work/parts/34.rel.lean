/-! ===== pure: the relation ===== -/
def z_tape (σ τ : x_S) : Prop := ∃ n, n ≤ 120 ∧ σ 13 1 = nI n ∧ τ 0 8 = nI n ∧ ∀ i, i < n → σ 14 i = τ 6 i
def z_tr (σ τ : x_S) : Prop := ∃ n, n ≤ 16 ∧ σ 30 1 = nI n ∧ τ 0 12 = nI n ∧ ∀ i, i < n → σ 31 i = τ 7 i
/-- the image k -/
def z_im (σ τ : x_S) (k : Nat) : Prop := ∃ v : z_V, z_ok v ∧ z_S σ (48 + 8 * k) v ∧ z_M τ (1225 + 49 * k) v ∧ ((σ (48 + 8 * k) 0 = 1 ∧ τ 2 k = 1 ∧ τ 0 1 = 1) ∨ (σ (48 + 8 * k) 0 = 0 ∧ τ 2 k = 0))
def z_ims (σ τ : x_S) : Prop := ∀ k, k < 2 → z_im σ τ k
/-- v before the act: 0 a gesture w made for x, 1 street w's dim was x, 2 gesture w trained by x, 3 known in w turned -/
def z_undo (d w x : Nat) (v : z_V) : z_V := fun k =>
  if d = 0 then (if k = 43 + w then v k - 1 else if k = 3 then v k - x else v k)
  else if d = 1 then (if k = 5 + w then x else v k)
  else if d = 2 then (if k = 25 + w then v k + x else v k)
  else (if k = 4 then v k ^^^ (1 <<< w) else v k)
/-- an act that can be undone from v -/
def z_actok (d w x : Nat) (v : z_V) : Prop := (d = 0 ∧ w < v 2 ∧ 1 ≤ v (43 + w) ∧ x ≤ v 3) ∨ (d = 1 ∧ w < v 1 ∧ x ≤ 30) ∨ (d = 2 ∧ w < v 2 ∧ 1 ≤ x ∧ v (25 + w) + x ≤ 30) ∨ (d = 3 ∧ w < v 1 ∧ x = 0)
/-- the acts in the ring (n kept, the next slot p), the towns that they lead back to -/
def z_past (σ τ : x_S) (n p : Nat) (V : Nat → z_V) : Prop := ∀ i, i < n → ∃ d w x, σ 17 ((p + 23 - i) % 24) = nI d ∧ σ 18 ((p + 23 - i) % 24) = nI w ∧ σ 19 ((p + 23 - i) % 24) = nI x ∧ z_actok d w x (V i) ∧ V (i + 1) = z_undo d w x (V i) ∧ z_M τ (49 + 49 * (n - 1 - i)) (V (i + 1))
def z_town (σ τ : x_S) : Prop := ∃ (v : z_V) (n p : Nat) (V : Nat → z_V), z_T σ τ v ∧ ((σ 32 0 = 1 ∧ τ 0 1 = 1) ∨ (σ 32 0 = 0 ∧ τ 0 1 = 0 ∧ v 1 = 0 ∧ v 2 = 0)) ∧ n ≤ 24 ∧ p < 24 ∧ σ 16 4 = nI n ∧ τ 0 2 = nI n ∧ σ 16 3 = nI p ∧ V 0 = v ∧ z_past σ τ n p V
def z_Rel (σ τ : x_S) : Prop := z_st σ τ ∧ z_rows σ τ ∧ z_tape σ τ ∧ σ 13 2 = τ 0 9 ∧ z_town σ τ ∧ z_ims σ τ ∧ z_tr σ τ
-- what each part rests on
theorem z_rows_c {σ τ σ' τ' : x_S} (h : z_rows σ τ) (h1 : ∀ k, 3 ≤ k → k < 13 → σ' k = σ k) (h3 : τ' 3 = τ 3) (h4 : τ' 4 = τ 4) (h5 : τ' 5 = τ 5) : z_rows σ' τ' := by
  intro r hr
  obtain ⟨⟨ln, l1, l2, l3⟩, hl, hi⟩ := h r hr
  refine ⟨⟨ln, l1, by rw [h1 12 (by omega) (by omega)]; exact l2, by rw [h3]; exact l3⟩, ?_, fun i hi2 => ?_⟩
  · rw [h1 11 (by omega) (by omega), h4]; exact hl
  · rw [h1 (3 + r) (by omega) (by omega), h5]; exact hi i hi2
theorem z_tape_c {σ τ σ' τ' : x_S} (h : z_tape σ τ) (h1 : σ' 13 1 = σ 13 1) (h2 : σ' 14 = σ 14) (h3 : τ' 0 8 = τ 0 8) (h4 : τ' 6 = τ 6) : z_tape σ' τ' := by
  obtain ⟨n, a, b, c, d⟩ := h
  exact ⟨n, a, by rw [h1]; exact b, by rw [h3]; exact c, fun i hi => by rw [h2, h4]; exact d i hi⟩
theorem z_tr_c {σ τ σ' τ' : x_S} (h : z_tr σ τ) (h1 : σ' 30 1 = σ 30 1) (h2 : σ' 31 = σ 31) (h3 : τ' 0 12 = τ 0 12) (h4 : τ' 7 = τ 7) : z_tr σ' τ' := by
  obtain ⟨n, a, b, c, d⟩ := h
  exact ⟨n, a, by rw [h1]; exact b, by rw [h3]; exact c, fun i hi => by rw [h2, h4]; exact d i hi⟩
theorem z_S_c {σ σ' : x_S} {c : Nat} {v : z_V} (h : z_S σ c v) (h1 : ∀ k, c ≤ k → k < c + 8 → σ' k = σ k) : z_S σ' c v := by
  obtain ⟨a0, a1, a2, a3, a4, as, ag⟩ := h
  have e0 := h1 c (by omega) (by omega)
  refine ⟨by rw [e0]; exact a0, by rw [e0]; exact a1, by rw [e0]; exact a2, by rw [e0]; exact a3, by rw [e0]; exact a4, fun s hs => ?_, fun g hg => ?_⟩
  · rw [h1 (c + 1) (by omega) (by omega), h1 (c + 2) (by omega) (by omega)]; exact as s hs
  · rw [h1 (c + 3) (by omega) (by omega), h1 (c + 4) (by omega) (by omega), h1 (c + 5) (by omega) (by omega), h1 (c + 6) (by omega) (by omega), h1 (c + 7) (by omega) (by omega)]; exact ag g hg
/-- a town is 49 places -/
theorem z_M_c {τ τ' : x_S} {b b' : Nat} {v : z_V} (h : z_M τ b v) (hv : v 1 ≤ 7 ∧ v 2 ≤ 6) (h1 : ∀ k, k < 49 → τ' 1 (b' + k) = τ 1 (b + k)) : z_M τ' b' v := by
  obtain ⟨a0, a1, a2, a3, a4, as, ag⟩ := h
  have e0 : τ' 1 b' = τ 1 b := h1 0 (by omega)
  refine ⟨by rw [e0]; exact a0, by rw [h1 1 (by omega)]; exact a1, by rw [h1 2 (by omega)]; exact a2, by rw [h1 3 (by omega)]; exact a3, by rw [h1 4 (by omega)]; exact a4, fun s hs => ?_, fun g hg => ?_⟩
  · rw [h1 (5 + s) (by omega), h1 (12 + s) (by omega)]; exact as s hs
  · rw [h1 (19 + g) (by omega), h1 (25 + g) (by omega), h1 (31 + g) (by omega), h1 (37 + g) (by omega), h1 (43 + g) (by omega)]; exact ag g hg
theorem z_ims_c {σ τ σ' τ' : x_S} (h : z_ims σ τ) (h1 : ∀ k, 48 ≤ k → k < 64 → σ' k = σ k) (h2 : ∀ k, k < 98 → τ' 1 (1225 + k) = τ 1 (1225 + k)) (h3 : τ' 2 = τ 2) (h4 : τ 0 1 = 1 → τ' 0 1 = 1) : z_ims σ' τ' := by
  intro k hk
  obtain ⟨v, hv, hS, hM, hk2⟩ := h k hk
  refine ⟨v, hv, z_S_c hS (fun j g1 g2 => h1 j (by omega) (by omega)), z_M_c hM ⟨hv.2.1, hv.2.2.1⟩ (fun j hj => ?_), ?_⟩
  · have := h2 (49 * k + j) (by omega)
    rw [Nat.add_assoc]
    exact this
  · rw [h1 (48 + 8 * k) (by omega) (by omega), h3]
    rcases hk2 with ⟨g1, g2, g3⟩ | g
    · exact Or.inl ⟨g1, g2, h4 g3⟩
    · exact Or.inr g
theorem z_undo_sg {d w x : Nat} {v : z_V} (h : z_actok d w x v) : (z_undo d w x v) 1 = v 1 ∧ (z_undo d w x v) 2 = v 2 := by
  unfold z_undo
  rcases h with ⟨rfl, -⟩ | ⟨rfl, hw, -⟩ | ⟨rfl, hw, -⟩ | ⟨rfl, -⟩ <;> simp <;> omega
theorem z_past_sg {σ τ : x_S} {n p : Nat} {V : Nat → z_V} (h : z_past σ τ n p V) : ∀ i, i ≤ n → V i 1 = V 0 1 ∧ V i 2 = V 0 2 := by
  intro i
  induction i with
  | zero => intro _; exact ⟨rfl, rfl⟩
  | succ i ih =>
    intro hi
    obtain ⟨d, w, x, -, -, -, ha, e, -⟩ := h i (by omega)
    rw [e]
    obtain ⟨h1, h2⟩ := z_undo_sg ha
    obtain ⟨g1, g2⟩ := ih (by omega)
    exact ⟨h1.trans g1, h2.trans g2⟩
theorem z_past_c {σ τ σ' τ' : x_S} {n p : Nat} {V : Nat → z_V} (h : z_past σ τ n p V) (hn : n ≤ 24) (hv : V 0 1 ≤ 7 ∧ V 0 2 ≤ 6) (h1 : σ' 17 = σ 17) (h2 : σ' 18 = σ 18) (h3 : σ' 19 = σ 19) (h4 : ∀ k, k < 49 * n → τ' 1 (49 + k) = τ 1 (49 + k)) : z_past σ' τ' n p V := by
  intro i hi
  obtain ⟨d, w, x, a, b, c, e, f, g⟩ := h i hi
  have hsg := z_past_sg h (i + 1) (by omega)
  refine ⟨d, w, x, by rw [h1]; exact a, by rw [h2]; exact b, by rw [h3]; exact c, e, f, z_M_c g (by omega) (fun k hk => ?_)⟩
  have hb : 49 * (n - 1 - i) + 49 ≤ 49 * n := by
    have : n - 1 - i + 1 ≤ n := by omega
    have := Nat.mul_le_mul (Nat.le_refl 49) this
    omega
  have := h4 (49 * (n - 1 - i) + k) (by omega)
  rw [Nat.add_assoc]
  exact this
theorem z_town_c {σ τ σ' τ' : x_S} (h : z_town σ τ) (h1 : ∀ k, 32 ≤ k → k < 40 → σ' k = σ k) (h2 : ∀ k, 16 ≤ k → k < 20 → σ' k = σ k) (h3 : ∀ k, k < 1225 → τ' 1 k = τ 1 k) (h4 : τ' 0 1 = τ 0 1) (h5 : τ' 0 2 = τ 0 2) : z_town σ' τ' := by
  obtain ⟨v, n, p, V, ⟨hv, hS, hM⟩, hst, hn, hp, k1, k2, k3, hV, hpast⟩ := h
  refine ⟨v, n, p, V, ⟨hv, z_S_c hS (fun k g1 g2 => h1 k g1 (by omega)), z_M_c hM ⟨hv.2.1, hv.2.2.1⟩ (fun k hk => by rw [Nat.zero_add]; exact h3 k (by omega))⟩, ?_, hn, hp, ?_, ?_, ?_, hV, z_past_c hpast hn (by rw [hV]; exact ⟨hv.2.1, hv.2.2.1⟩) (h2 17 (by omega) (by omega)) (h2 18 (by omega) (by omega)) (h2 19 (by omega) (by omega)) (fun k hk => h3 _ (by omega))⟩
  · rw [h1 32 (by omega) (by omega), h4]; exact hst
  · rw [h2 16 (by omega) (by omega)]; exact k1
  · rw [h5]; exact k2
  · rw [h2 16 (by omega) (by omega)]; exact k3
/-- rows and the status alone have changed -/
theorem z_Rel_rows {σ τ σ' τ' : x_S} (h : z_Rel σ τ) (hst : z_st σ' τ') (hr : z_rows σ' τ') (h1 : ∀ k, 13 ≤ k → σ' k = σ k) (h2 : ∀ k, (k = 1 ∨ k = 2 ∨ 6 ≤ k) → τ' k = τ k) (h3 : ∀ j, j ≠ 10 → τ' 0 j = τ 0 j) : z_Rel σ' τ' := by
  obtain ⟨-, -, ht, hf, hto, him, htr⟩ := h
  refine ⟨hst, hr, z_tape_c ht (by rw [h1 13 (by omega)]) (h1 14 (by omega)) (h3 8 (by omega)) (h2 6 (by omega)), ?_, z_town_c hto (fun k g _ => h1 k (by omega)) (fun k g _ => h1 k (by omega)) (fun k _ => by rw [h2 1 (by omega)]) (h3 1 (by omega)) (h3 2 (by omega)), z_ims_c him (fun k g _ => h1 k (by omega)) (fun k _ => by rw [h2 1 (by omega)]) (h2 2 (by omega)) (fun z => (h3 1 (by omega)).trans z), z_tr_c htr (by rw [h1 30 (by omega)]) (h1 31 (by omega)) (h3 12 (by omega)) (h2 7 (by omega))⟩
  rw [h1 13 (by omega), h3 9 (by omega)]; exact hf
theorem z_Rel_st {σ τ : x_S} (h : z_Rel σ τ) (k : Int32) : z_Rel (x_u σ 0 8 k) (x_u τ 0 10 k) := by
  refine z_Rel_rows h (by show x_u σ 0 8 k 0 8 = x_u τ 0 10 k 0 10; rw [z_us, z_us]) (z_rows_c h.2.1 (fun k h1 h2 => z_uk (by omega)) (z_uk (by decide)) (z_uk (by decide)) (z_uk (by decide))) (fun k hk => z_uk (by omega)) (fun k hk => z_uk (by omega)) (fun j hj => z_ui hj)
