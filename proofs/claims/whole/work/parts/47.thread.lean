/-! ===== pure: thread, inches, sorts ===== -/
theorem z_at {σ : x_S} {r y : Nat} (hr : r < 8) (hy : y < 40) : fX5_at (nI r) (nI y) σ = some (σ (3 + r) y) := by
  unfold fX5_at
  rw [z_gi hr (by decide), z_gi hy (by decide), z_cl (by omega), z_cl (by omega)]
theorem z_e2 (j : Nat) : (2 : Int32) * nI j = nI (2 * j) := by rw [show (2 : Int32) = nI 2 from rfl, pk_mul]
theorem z_e40 (r i j : Nat) : (40 : Int32) * nI r + nI i + 2 * nI j = nI (40 * r + i + 2 * j) := by rw [z_e2, show (40 : Int32) = nI 40 from rfl, pk_mul, nI_add, nI_add]
theorem z_streets {σ τ : x_S} {v : z_V} (h : z_T σ τ v) {r i n : Nat} (hr : r < 8) (hn : n ≤ 12) (hin : i + 2 * n ≤ 40) (hrow : ∀ y, y < 40 → σ (3 + r) y = τ 5 (40 * r + y)) : ∀ d f j, j + d = n → d < f → ((∀ t, j ≤ t → t < n → ∃ s, s < v 1 ∧ σ (3 + r) (i + 2 * t) = nI s) ∧ x_fx (α := Int32 → x_S → Option (Int32 × x_S)) (fun _ _ => none) (fun K => fun x5 σ => gX7_refusalOfThread_49 (nI r) (nI i) (nI n) K x5 σ) f (nI j) σ = some (0, σ) ∧ x_fx (α := Int32 → Int32 → x_S → Option (Int32 × x_S)) (fun _ _ _ => none) (fun K => fun x4 x5 σ => gX8_noPairs_39 (nI r) (nI i) (nI n) K x4 x5 σ) f 1 (nI j) τ = some (0, τ)) ∨ (x_fx (α := Int32 → x_S → Option (Int32 × x_S)) (fun _ _ => none) (fun K => fun x5 σ => gX7_refusalOfThread_49 (nI r) (nI i) (nI n) K x5 σ) f (nI j) σ = some (-1000001, σ) ∧ x_fx (α := Int32 → Int32 → x_S → Option (Int32 × x_S)) (fun _ _ _ => none) (fun K => fun x4 x5 σ => gX8_noPairs_39 (nI r) (nI i) (nI n) K x4 x5 σ) f 1 (nI j) τ = some (-1000001, τ)) := by
  have z0 : ∀ d f j, j + d = n → d < f → x_fx (α := Int32 → Int32 → x_S → Option (Int32 × x_S)) (fun _ _ _ => none) (fun K => fun x4 x5 σ => gX8_noPairs_39 (nI r) (nI i) (nI n) K x4 x5 σ) f 0 (nI j) τ = some (-1000001, τ) := by
    intro d
    induction d with
    | zero =>
      intro f j hj hf
      cases f with
      | zero => exact absurd hf (by omega)
      | succ f =>
        show gX8_noPairs_39 (nI r) (nI i) (nI n) _ 0 (nI j) τ = _
        unfold gX8_noPairs_39
        rw [if_pos (nI_le (by omega) (by omega)), if_pos rfl]
    | succ d ih =>
      intro f j hj hf
      cases f with
      | zero => exact absurd hf (by omega)
      | succ f =>
        have u : ∀ K : Int32 → Int32 → x_S → Option (Int32 × x_S), gX8_noPairs_39 (nI r) (nI i) (nI n) K 0 (nI j) τ = K 0 (nI (j + 1)) τ := by
          intro K
          unfold gX8_noPairs_39
          rw [if_neg (nI_ge (by omega) (by omega)), if_pos rfl, nI_1]
        exact (u _).trans (ih f (j + 1) (by omega) (by omega))
  intro d
  induction d with
  | zero =>
    intro f j hj hf
    cases f with
    | zero => exact absurd hf (by omega)
    | succ f =>
      refine Or.inl ⟨fun t h1 h2 => absurd h2 (by omega), ?_, ?_⟩
      · show gX7_refusalOfThread_49 (nI r) (nI i) (nI n) _ (nI j) σ = _
        unfold gX7_refusalOfThread_49
        rw [if_pos (nI_le (by omega) (by omega))]
      · show gX8_noPairs_39 (nI r) (nI i) (nI n) _ 1 (nI j) τ = _
        unfold gX8_noPairs_39
        rw [if_pos (nI_le (by omega) (by omega)), if_neg z_10]
  | succ d ih =>
    intro f j hj hf
    cases f with
    | zero => exact absurd hf (by omega)
    | succ f =>
      have hm : τ 5 (40 * r + i + 2 * j) = σ (3 + r) (i + 2 * j) := by rw [hrow _ (by omega)]; congr 1; omega
      have uS : ∀ K : Int32 → x_S → Option (Int32 × x_S), gX7_refusalOfThread_49 (nI r) (nI i) (nI n) K (nI j) σ = x_p (fX7_isStreet (σ (3 + r) (i + 2 * j)) σ) (fun r5 => if r5 = 0 then some (-1000001, σ) else K (nI (j + 1)) σ) := by
        intro K
        unfold gX7_refusalOfThread_49
        rw [if_neg (nI_ge (by omega) (by omega)), z_e2, nI_add, z_at hr (by omega), z_p, nI_1]
      have uM : ∀ K : Int32 → Int32 → x_S → Option (Int32 × x_S), gX8_noPairs_39 (nI r) (nI i) (nI n) K 1 (nI j) τ = x_p (fX8_isStreet (σ (3 + r) (i + 2 * j)) τ) (fun r6 => if r6 = 0 then K 0 (nI (j + 1)) τ else K 1 (nI (j + 1)) τ) := by
        intro K
        unfold gX8_noPairs_39
        rw [if_neg (nI_ge (by omega) (by omega)), if_neg z_10, z_e40, z_gi (n := 320) (by omega) (by decide), z_cl (by omega), hm, nI_1]
      rcases h.str (σ (3 + r) (i + 2 * j)) with ⟨q1, q2⟩ | ⟨s, hs, e, q1, q2⟩
      · refine Or.inr ⟨(uS _).trans (by rw [q1, z_p, if_pos rfl]), (uM _).trans ?_⟩
        rw [q2, z_p, if_pos rfl]
        exact z0 d f (j + 1) (by omega) (by omega)
      · have wS : ∀ K : Int32 → x_S → Option (Int32 × x_S), gX7_refusalOfThread_49 (nI r) (nI i) (nI n) K (nI j) σ = K (nI (j + 1)) σ := fun K => (uS K).trans (by rw [q1, z_p, if_neg z_10])
        have wM : ∀ K : Int32 → Int32 → x_S → Option (Int32 × x_S), gX8_noPairs_39 (nI r) (nI i) (nI n) K 1 (nI j) τ = K 1 (nI (j + 1)) τ := fun K => (uM K).trans (by rw [q2, z_p, if_neg z_10])
        rcases ih f (j + 1) (by omega) (by omega) with ⟨g1, g2, g3⟩ | ⟨g2, g3⟩
        · refine Or.inl ⟨fun t h1 h2 => ?_, (wS _).trans g2, (wM _).trans g3⟩
          by_cases et : t = j
          · subst et; exact ⟨s, hs, e⟩
          · exact g1 t (by omega) h2
        · exact Or.inr ⟨(wS _).trans g2, (wM _).trans g3⟩
/-- the reference's refusals of a thread, then F -/
def z_chM (a1 a2 a3 : Int32) (F : x_S → Option (Int32 × x_S)) (τ : x_S) : Option (Int32 × x_S) :=
  x_p (fX8_isRow a1 τ) (fun r3 => if r3 = 0 then (some ((-1000001), τ)) else (x_p (fX8_in a3.toInt64 1 12 τ) (fun r6 => if r6 = 0 then (some ((-1000001), τ)) else (x_b (fX8_noPairs a1 a2 a3 τ) (fun r9 σ10 => if r9 = 0 then (F σ10) else (some (r9, σ10)))))))
theorem z_refuse {σ τ : x_S} {v : z_V} (hR : z_Rel σ τ) (h : z_T σ τ v) (a1 a2 a3 : Int32) : (∃ k σ' τ', k ≠ 0 ∧ fX7_refusalOfThread a1 a2 a3 σ = some (k, σ') ∧ (∀ F, z_chM a1 a2 a3 F τ = some (k, τ')) ∧ z_Rel σ' τ') ∨ (∃ r i n, r < 8 ∧ 1 ≤ n ∧ n ≤ 12 ∧ i + 2 * n ≤ 40 ∧ a1 = nI r ∧ a2 = nI i ∧ a3 = nI n ∧ (∀ t, t < n → ∃ s, s < v 1 ∧ σ (3 + r) (i + 2 * t) = nI s) ∧ fX7_refusalOfThread a1 a2 a3 σ = some (0, σ) ∧ ∀ F, z_chM a1 a2 a3 F τ = F τ) := by
  unfold fX7_refusalOfThread z_chM
  have k1 : ¬ (-1000001 : Int32) = 0 := by decide
  rcases z_isRow a1 σ τ with ⟨h1, h2⟩ | ⟨r, hr, rfl, h1, h2⟩
  · exact Or.inl ⟨-1000001, σ, τ, k1, by rw [h1, z_p, if_pos rfl], fun F => by rw [h2, z_p, if_pos rfl], hR⟩
  · rw [h1, h2, z_p, if_neg z_10, z_isWithin, show (1 : Int64) = (1 : Int32).toInt64 from rfl, show (12 : Int64) = (12 : Int32).toInt64 from rfl, z_in64, z_p]
    by_cases q : z_W a3 1 12 = 0
    · exact Or.inl ⟨-1000001, σ, τ, k1, by rw [if_pos q], fun F => by rw [z_p, if_neg z_10, z_p, if_pos q], hR⟩
    · rw [if_neg q]
      obtain ⟨n, hn1, hn, rfl⟩ := z_W4 (m := 1) (n := 12) (by decide) (by decide) q
      have hw := hR.2.1 r hr
      have hrow := hw.2.2
      unfold fX5_findingOf fX8_noPairs
      rw [z_gi hr (by decide)]
      have ec : (nI r).toNatClampNeg = r := z_cl (by omega)
      rcases z_isMissing hr hw with ⟨e1, e2⟩ | ⟨m, hm, e1, e2, e3⟩
      · refine Or.inl ⟨-1000010 - 1, x_u σ 0 8 1, x_u τ 0 10 1, by decide, ?_, fun F => ?_, z_Rel_st hR 1⟩
        · rw [e1, z_p, if_neg z_10, z_p, if_neg z_10, z_found, z_b]
        · rw [z_p, if_neg z_10, z_p, if_neg q, if_neg (by rw [ec, e2]; decide), z_find, z_b, z_b, if_neg (by decide)]
      · rw [e3, z_p, if_pos rfl]
        have cM : 0 ≤ τ 4 (nI r).toNatClampNeg := by rw [ec, e2]; exact nI_pos' (by omega)
        rcases z_Sreach hr hm e1 a2 (2 * nI n) with ⟨x1, y1⟩ | ⟨x1, y1⟩
        · rcases z_Mreach hr hm e2 a2 (2 * nI n) with ⟨x2, -⟩ | ⟨-, y2⟩
          · obtain ⟨i, n', rfl, en, hin⟩ := y1
            rw [z_e2] at en
            have en2 : 2 * n = n' := (nI_eq (by omega) (by omega)).mp en
            subst en2
            rw [x1, z_p, if_neg z_10, z_p, if_pos rfl]
            have hs := z_streets h hr (i := i) hn (by omega) hrow n x_F 0 (by omega) (z_fuel (by omega))
            rw [show (nI 0 : Int32) = 0 from rfl] at hs
            unfold bX7_refusalOfThread_49 bX8_noPairs_39
            rcases hs with ⟨g1, g2, g3⟩ | ⟨g2, g3⟩
            · refine Or.inr ⟨r, i, n, hr, hn1, hn, by omega, rfl, rfl, rfl, fun t ht => g1 t (by omega) ht, g2, fun F => ?_⟩
              rw [z_p, if_neg z_10, z_p, if_neg q, if_pos cM, x2, z_p, if_neg z_10, g3, z_b, if_pos rfl]
            · refine Or.inl ⟨-1000001, σ, τ, k1, g2, fun F => ?_, hR⟩
              rw [z_p, if_neg z_10, z_p, if_neg q, if_pos cM, x2, z_p, if_neg z_10, g3, z_b, if_neg k1]
          · exact absurd y1 y2
        · rcases z_Mreach hr hm e2 a2 (2 * nI n) with ⟨-, y2⟩ | ⟨x2, -⟩
          · exact absurd y2 y1
          · refine Or.inl ⟨-1000010 - 2, x_u σ 0 8 2, x_u τ 0 10 2, by decide, ?_, fun F => ?_, z_Rel_st hR 2⟩
            · rw [x1, z_p, if_pos rfl, z_p, if_neg (by decide), z_found, z_b]
            · rw [z_p, if_neg z_10, z_p, if_neg q, if_pos cM, x2, z_p, if_pos rfl, z_find, z_b, z_b, if_neg (by decide)]
