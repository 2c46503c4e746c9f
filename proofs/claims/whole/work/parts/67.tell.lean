/-! ===== pure: tell ===== -/
theorem z_nM {n : Nat} (h : n < 65536) : ¬ (nI n = -1000000) := fun z => by
  have h1 := congrArg Int32.toInt z
  rw [nI_toInt (by omega)] at h1
  have h2 : (-1000000 : Int32).toInt = -1000000 := by decide
  omega
theorem z_Rel_22 {σ τ σ' τ' : x_S} (h : z_Rel σ τ) (h1 : ∀ c, (c < 22 ∨ 30 ≤ c) → σ' c = σ c) (h2 : ∀ c, c ≠ 8 → τ' c = τ c) : z_Rel σ' τ' := by
  obtain ⟨hs, hr, hta, hf, hto, him, htr⟩ := h
  have e0 : τ' 0 = τ 0 := h2 0 (by decide)
  refine ⟨?_, z_rows_c hr (fun k g1 g2 => h1 k (by omega)) (h2 3 (by decide)) (h2 4 (by decide)) (h2 5 (by decide)), z_tape_c hta (by rw [h1 13 (by decide)]) (h1 14 (by decide)) (by rw [e0]) (h2 6 (by decide)), ?_, z_town_c hto (fun k g1 g2 => h1 k (by omega)) (fun k g1 g2 => h1 k (by omega)) (fun k _ => by rw [h2 1 (by decide)]) (by rw [e0]) (by rw [e0]), z_ims_c him (fun k g1 g2 => h1 k (by omega)) (fun k _ => by rw [h2 1 (by decide)]) (h2 2 (by decide)) (fun z => by rw [e0]; exact z), z_tr_c htr (by rw [h1 30 (by decide)]) (h1 31 (by decide)) (by rw [e0]) (h2 7 (by decide))⟩
  · show σ' 0 8 = τ' 0 10
    rw [h1 0 (by decide), e0]; exact hs
  · rw [h1 13 (by decide), e0]; exact hf
/-- along the streets -/
theorem z_walk {σ τ : x_S} {v : z_V} (hS : z_S σ 32 v) (hM : z_M τ 0 v) (hv : z_ok v) (m : Int32) {a b T q : Nat} (hb : b < v 1) (hq : a + q ≤ b) (hT : T < 100) (h1 : ∀ s, a ≤ s → s ≤ b + 1 → ∀ t, t ≤ T → σ (22 + s) t = nI (z_cost v m (b + 1) (b + 1 - s) t)) (h2 : ∀ s, a ≤ s → s ≤ b + 1 → ∀ t, t < 100 → τ 8 (100 * s + t) = nI (z_cost v m (b + 1) (b + 1 - s) t)) (x6 : Int32) : ∀ d s t x f f', s + d = a + q + 1 → a ≤ s → t ≤ T → z_cost v m (b + 1) (b + 1 - s) t < 1000000 → d < f → d < f' → ∃ r, x_fx (α := Int32 → Int32 → Int32 → x_S → Option (Int32 × x_S)) (fun _ _ _ _ => none) (fun K => fun x7 x8 x9 σ => gX6_gestureOfCheapest_48 32 m (nI a) (nI q) K x7 x8 x9 σ) f (nI t) x (nI s) σ = some (r, σ) ∧ x_fx (α := Int32 → Int32 → Int32 → x_S → Option (Int32 × x_S)) (fun _ _ _ _ => none) (fun K => fun x7 x8 x9 σ => gX8_tell_97 m (nI a) (nI q) x6 K x7 x8 x9 σ) f' (nI t) x (nI s) τ = some (r, τ) := by
  have h7 := hv.2.1
  have h6 := hv.2.2.1
  intro d
  induction d with
  | zero =>
    intro s t x f f' hs has ht hc hf hf'
    cases f with
    | zero => exact absurd hf (by omega)
    | succ f =>
      cases f' with
      | zero => exact absurd hf' (by omega)
      | succ f' =>
        refine ⟨x, ?_, ?_⟩
        · show gX6_gestureOfCheapest_48 32 m (nI a) (nI q) (x_fx _ _ f) (nI t) x (nI s) σ = _
          unfold gX6_gestureOfCheapest_48
          rw [nI_add, if_pos (nI_lt (by omega) (by omega))]
        · show gX8_tell_97 m (nI a) (nI q) x6 (x_fx _ _ f') (nI t) x (nI s) τ = _
          unfold gX8_tell_97
          rw [nI_add, if_pos (nI_lt (by omega) (by omega)), if_pos (z_ge0 (by omega))]
  | succ d ih =>
    intro s t x f f' hs has ht hc hf hf'
    cases f with
    | zero => exact absurd hf (by omega)
    | succ f =>
      cases f' with
      | zero => exact absurd hf' (by omega)
      | succ f' =>
        have e1 : b + 1 - s = (b + 1 - (s + 1)) + 1 := by omega
        have e2 : b + 1 - (b + 1 - (s + 1) + 1) = s := by omega
        have eC : z_cost v m (b + 1) (b + 1 - s) t = z_fold (z_cs v m s (z_cost v m (b + 1) (b + 1 - (s + 1))) t) 0 (v 2) 1000000 := by
          rw [e1]
          show z_fold (z_cs v m (b + 1 - (b + 1 - (s + 1) + 1)) (z_cost v m (b + 1) (b + 1 - (s + 1))) t) 0 (v 2) 1000000 = _
          rw [e2]
        have hle := z_cost_le v m (b + 1) (b + 1 - (s + 1))
        have h10 := h1 s has (by omega) t ht
        have h20 := h2 s has (by omega) t (by omega)
        rw [eC] at hc h10 h20
        obtain ⟨g, g1, g2, g3⟩ := z_pick hc
        obtain ⟨u1, u2⟩ := z_used g2 hc
        have hS1 := z_firstS hS hv (show s < v 1 by omega) hT ht hle (h1 (s + 1) (by omega) (by omega)) hc h10 g1 g2 g3
        have hM1 := fun K97 => z_firstM hM hv (show s < v 1 by omega) (show t < 100 by omega) hle (h2 (s + 1) (by omega) (by omega)) hc h20 g1 g2 g3 K97 (nI a) (nI q) x6
        obtain ⟨-, -, -, e4, -⟩ := hS.2.2.2.2.2.2 g g1
        have e4 : σ 38 g = nI (v (37 + g)) := e4
        obtain ⟨r, r1, r2⟩ := ih (s + 1) (t - v (37 + g)) (nI g) f f' (by omega) (by omega) (by omega) u2 (by omega) (by omega)
        have uS : ∀ K : Int32 → Int32 → Int32 → x_S → Option (Int32 × x_S), gX6_gestureOfCheapest_48 32 m (nI a) (nI q) K (nI t) x (nI s) σ = K (nI (t - v (37 + g))) (nI g) (nI (s + 1)) σ := by
          intro K
          unfold gX6_gestureOfCheapest_48
          rw [nI_add, if_neg (nI_nlt (by omega) (by omega)), hS1, z_p, if_neg (z_nM (show g < 65536 by omega)), z_gi (n := 6) (by omega) (by decide), show (32 : Nat) + 6 = 38 from rfl, z_cl (by omega), e4, pk_sub u1, nI_1]
        have uM : ∀ K : Int32 → Int32 → Int32 → x_S → Option (Int32 × x_S), gX8_tell_97 m (nI a) (nI q) x6 K (nI t) x (nI s) τ = K (nI (t - v (37 + g))) (nI g) (nI (s + 1)) τ := by
          intro K
          unfold gX8_tell_97
          rw [nI_add, if_neg (nI_nlt (by omega) (by omega)), hM1 K, pk_sub u1]
        refine ⟨r, ?_, ?_⟩
        · show gX6_gestureOfCheapest_48 32 m (nI a) (nI q) (x_fx _ _ f) (nI t) x (nI s) σ = _
          exact (uS _).trans r1
        · show gX8_tell_97 m (nI a) (nI q) x6 (x_fx _ _ f') (nI t) x (nI s) τ = _
          exact (uM _).trans r2
/-- tell -/
theorem o_tell {σ τ : x_S} (h : z_Rel σ τ) (a1 a2 a3 a4 a5 : Int32) : z_op (fX7_tell a1 a2 a3 a4 a5 σ) (fX8_tell a1 a2 a3 a4 a5 τ) z_Rel := by
  obtain ⟨v, n0, p, V, ht, -⟩ := h.2.2.2.2.1
  have h7 := ht.1.2.1
  unfold z_op fX7_tell fX8_tell
  obtain ⟨r, r1, r2⟩ := z_mean a1 σ τ
  rw [r1, r2, z_p, z_p]
  by_cases q : r = 0
  · rw [if_pos q, if_pos q]; exact ⟨_, _, _, rfl, rfl, h⟩
  · rw [if_neg q, if_neg q]
    rcases ht.stretch a2 a3 with ⟨h1, h2⟩ | ⟨a, b, hab, hb, rfl, rfl, h1, h2⟩
    · rw [h1, h2, z_p, z_p, if_pos rfl, if_pos rfl]; exact ⟨_, _, _, rfl, rfl, h⟩
    · rw [h1, h2, z_p, z_p, if_neg z_10, if_neg z_10, z_isWithin, z_isWithin, show fX8_in a4.toInt64 0 99 τ = some (z_W a4 0 99) from z_in64 a4 0 99 τ, show fX8_in a5.toInt64 (-1) 6 τ = some (z_W a5 (-1) 6) from z_in64 a5 (-1) 6 τ, z_p, z_p, z_p, z_p]
      rcases z_W_ix a4 99 (by decide) with c | ⟨T, hT, rfl, c⟩
      · have c : z_W a4 0 99 = 0 := c
        rw [c, if_pos rfl, if_pos rfl]; exact ⟨_, _, _, rfl, rfl, h⟩
      · have c : z_W (nI T) 0 99 = 1 := c
        rw [c, if_neg z_10, if_neg z_10]
        by_cases c5 : z_W a5 (-1) 6 = 0
        · rw [if_pos c5, if_pos c5]; exact ⟨_, _, _, rfl, rfl, h⟩
        · obtain ⟨k1, k2⟩ := z_W1 c5
          rw [if_neg c5, if_neg c5]
          obtain ⟨σ', s1, s2, s3⟩ := z_fillS ht.2.1 ht.1 a1 hab hb (show T < 100 by omega)
          obtain ⟨τ', t1, t2, t3⟩ := z_layM ht.2.2 ht.1 a1 hab hb
          have hR : z_Rel σ' τ' := z_Rel_22 h s2 t2
          have hS' : z_S σ' 32 v := z_S_c ht.2.1 (fun k g1 g2 => s2 k (by omega))
          have hM' : z_M τ' 0 v := z_M_c ht.2.2 ⟨ht.1.2.1, ht.1.2.2.1⟩ (fun k _ => by rw [t2 1 (by decide)])
          have e1 := s3 a (Nat.le_refl _) (by omega) T (Nat.le_refl _)
          have e2 := t3 a (Nat.le_refl _) (by omega) T (by omega)
          have hle := z_cost_le v a1 (b + 1) (b + 1 - a) T
          have hlast : ∀ C, C ≤ 1000000 → ((1000000 : Int32) ≤ nI C ↔ C = 1000000) := fun C hC => ⟨fun z => by have := (nI_leI (a := 1000000) (b := C) (by decide) (by omega)).mp z; omega, fun z => by subst z; exact Int32.le_refl _⟩
          rw [t1, z_v, z_e100, z_gi (n := 800) (by omega) (by decide), z_cl (by omega), e2]
          by_cases cC : z_cost v a1 (b + 1) (b + 1 - a) T = 1000000
          · -- none
            refine ⟨-1000000, σ', τ', ?_, by rw [if_pos ((hlast _ hle).mpr cC)], hR⟩
            by_cases k0 : (0 : Int32) ≤ a5
            · rw [if_pos k0]
              unfold fX6_gestureOfCheapest
              rw [s1, z_v]
              by_cases k3 : nI b - nI a < a5
              · rw [if_pos k3, z_b]
              · rw [if_neg k3, z_gi (n := 8) (by omega) (by decide), z_gi (n := 100) (by omega) (by decide), z_cl (by omega), z_cl (by omega), e1, if_neg (fun z => absurd ((hlast _ hle).mpr cC) (Int32.not_le.mpr z)), z_b]
            · rw [if_neg k0]
              unfold fX6_leastDuty
              rw [s1, z_v, z_gi (n := 8) (by omega) (by decide), z_gi (n := 100) (by omega) (by decide), z_gi (n := 8) (by omega) (by decide), z_gi (n := 100) (by omega) (by decide), z_cl (by omega), z_cl (by omega), e1, if_pos ((hlast _ hle).mpr cC), z_b]
          · have cN : ¬ (1000000 : Int32) ≤ nI (z_cost v a1 (b + 1) (b + 1 - a) T) := fun z => cC ((hlast _ hle).mp z)
            rw [if_neg cN]
            by_cases k0 : (0 : Int32) ≤ a5
            · obtain ⟨k, hk, rfl⟩ := nI_of (Int32.not_lt.mpr k0)
              have hk6 : k ≤ 6 := Nat.not_lt.mp (fun z => k2 ((nI_ltI (a := 6) (by decide) hk).mpr z))
              rw [if_pos k0, pk_sub hab]
              unfold fX6_gestureOfCheapest
              rw [s1, z_v, pk_sub hab]
              by_cases k3 : k ≤ b - a
              · rw [if_neg (nI_nlt k3 (by omega)), if_pos (nI_le k3 (by omega)), z_gi (n := 8) (by omega) (by decide), z_gi (n := 100) (by omega) (by decide), z_cl (show a < 65536 by omega), z_cl (show T < 65536 by omega), e1, if_pos (Int32.not_le.mp cN)]
                obtain ⟨r, g1, g2⟩ := z_walk hS' hM' ht.1 a1 hb (show a + k ≤ b by omega) (show T < 100 by omega) s3 t3 (nI (z_cost v a1 (b + 1) (b + 1 - a) T)) (k + 1) a T (-1000000) x_F x_F (by omega) (Nat.le_refl _) (Nat.le_refl _) (by omega) (z_fuel (by omega)) (z_fuel (by omega))
                have g1 : bX6_gestureOfCheapest_48 32 a1 (nI a) (nI k) (nI T) (-1000000) (nI a) σ' = some (r, σ') := g1
                have g2 : bX8_tell_97 a1 (nI a) (nI k) (nI (z_cost v a1 (b + 1) (b + 1 - a) T)) (nI T) (-1000000) (nI a) τ' = some (r, τ') := g2
                rw [g1, g2, z_b]
                exact ⟨_, _, _, rfl, rfl, hR⟩
              · rw [if_pos (nI_lt (by omega) (by omega)), if_neg (fun z => k3 ((nI_leI (by omega) (by omega)).mp z)), z_b]
                exact ⟨_, _, _, rfl, rfl, hR⟩
            · have hm1 : a5 = -1 := by
                have q1 : (-1 : Int32).toInt ≤ a5.toInt := Int32.le_iff_toInt_le.mp (Int32.not_lt.mp k1)
                have q2 : a5.toInt < (0 : Int32).toInt := Int32.lt_iff_toInt_lt.mp (Int32.not_le.mp k0)
                apply Int32.toInt_inj.mp
                have z1 : (-1 : Int32).toInt = -1 := by decide
                have z2 : (0 : Int32).toInt = 0 := by decide
                omega
              subst hm1
              have w1 : (-1 : Int32) ≤ nI b - nI a := by rw [pk_sub hab]; exact Int32.le_trans (by decide) (z_ge0 (by omega))
              have w2 : nI a + (-1) < nI a := by
                cases a with
                | zero => decide
                | succ a => rw [pk_m1]; exact nI_lt (by omega) (by omega)
              rw [if_neg k0, if_pos w1]
              refine ⟨nI (z_cost v a1 (b + 1) (b + 1 - a) T), σ', τ', ?_, ?_, hR⟩
              · unfold fX6_leastDuty
                rw [s1, z_v, z_gi (n := 8) (by omega) (by decide), z_gi (n := 100) (by omega) (by decide), z_gi (n := 8) (by omega) (by decide), z_gi (n := 100) (by omega) (by decide), z_cl (by omega), z_cl (by omega), e1, if_neg cN, z_b]
              · unfold bX8_tell_97
                show gX8_tell_97 a1 (nI a) (-1) _ _ (nI T) (-1000000) (nI a) τ' = _
                unfold gX8_tell_97
                rw [if_pos w2, if_neg (by decide)]
