theorem z_fill70 {v : z_V} (hv : z_ok v) (m : Int32) {s T : Nat} {nx : Nat → Nat} (hs : s < v 1) (hT : T < 100) (hle : ∀ t, nx t ≤ 1000000) (K33 : Int32 → x_S → Option x_S) (x3 : Int32) : ∀ d g f (B : Nat → Nat) σ, g + d = v 2 → d < f → (∀ t, B t ≤ 1000000) → z_S σ 32 v → (∀ t, t ≤ T → σ (22 + (s + 1)) t = nI (nx t)) → (∀ t, t ≤ T → σ (22 + s) t = nI (B t)) → ∃ σ', x_fx (α := Int32 → x_S → Option x_S) (fun _ _ => none) (fun K => fun x7 σ => gX6_fill_70 K33 32 m x3 (nI T) (nI s) K x7 σ) f (nI g) σ = K33 (nI s + (-1)) σ' ∧ (∀ c, c ≠ 22 + s → σ' c = σ c) ∧ ∀ t, t ≤ T → σ' (22 + s) t = nI (z_fold (z_cs v m s nx t) g d (B t)) := by
  have h7 := hv.2.1
  have h6 := hv.2.2.1
  intro d
  induction d with
  | zero =>
    intro g f B σ hg hf hB hS hnx hcur
    cases f with
    | zero => exact absurd hf (by omega)
    | succ f =>
      refine ⟨σ, ?_, fun _ _ => rfl, hcur⟩
      show gX6_fill_70 K33 32 m x3 (nI T) (nI s) _ (nI g) σ = _
      unfold gX6_fill_70
      rw [hS.2.2.1, if_pos (nI_le (by omega) (by omega))]
  | succ d ih =>
    intro g f B σ hg hf hB hS hnx hcur
    cases f with
    | zero => exact absurd hf (by omega)
    | succ f =>
      have hg2 : g < v 2 := by omega
      have hD := z_D_le hv hg2 hs
      obtain ⟨-, -, -, e4, -⟩ := hS.2.2.2.2.2.2 g hg2
      have e4 : σ 38 g = nI (v (37 + g)) := e4
      obtain ⟨-, -, -, hk⟩ := hv.2.2.2.2.2.2 g hg2
      have csB : ∀ t, z_on v m s nx t g = 1000000 → z_cs v m s nx t g (B t) = B t := by
        intro t e
        unfold z_cs
        rw [e]
        exact if_neg (by have := hB t; omega)
      have step : ∀ K : Int32 → x_S → Option x_S, ∃ σ1, gX6_fill_70 K33 32 m x3 (nI T) (nI s) K (nI g) σ = K (nI (g + 1)) σ1 ∧ (∀ c, c ≠ 22 + s → σ1 c = σ c) ∧ ∀ t, t ≤ T → σ1 (22 + s) t = nI (z_cs v m s nx t g (B t)) := by
        intro K
        unfold gX6_fill_70
        rw [hS.2.2.1, if_neg (nI_ge hg2 (by omega)), z_Stl hS hv m hg2 hs, z_p]
        by_cases q : z_tl v m g s = true
        · rw [if_neg (by rw [q]; decide), z_SD hS hv hg2 hs, z_p, z_gi (n := 6) (by omega) (by decide), z_cl (by omega), e4, nI_1]
          unfold fX6_offer bX6_offer_3
          by_cases c : v (37 + g) ≤ T
          · obtain ⟨σ1, t1, t2, t3, t4⟩ := z_off (D := z_D v g s) (k := v (37 + g)) (s := s) (T := T) (nx := nx) (A := B) (by omega) hT hD hle hB (T + 1 - v (37 + g)) (v (37 + g)) x_F σ (by omega) (Nat.le_refl _) (z_fuel (by omega)) hnx (fun t g1 g2 => hcur t g2)
            refine ⟨σ1, by rw [t1, z_v], t2, fun t ht => ?_⟩
            by_cases c2 : v (37 + g) ≤ t
            · rw [t4 t c2 ht]
              have e : z_on v m s nx t g = z_D v g s + nx (t - v (37 + g)) := if_pos ⟨q, c2⟩
              unfold z_cs
              rw [e]
            · rw [t3 t (by omega), hcur t ht]
              have e : z_on v m s nx t g = 1000000 := if_neg (fun z => c2 z.2)
              exact congrArg nI (csB t e).symm
          · refine ⟨σ, ?_, fun _ _ => rfl, fun t ht => ?_⟩
            · obtain ⟨F, hF⟩ : ∃ F, x_F = F + 1 := ⟨4095, rfl⟩
              rw [hF]
              have e : x_fx (α := Int32 → x_S → Option x_S) (fun _ _ => none) (fun K => fun x5 σ => gX6_offer_3 (nI (z_D v g s)) (nI (v (37 + g))) (nI s) (nI T) K x5 σ) (F + 1) (nI (v (37 + g))) σ = some σ := by
                show gX6_offer_3 (nI (z_D v g s)) (nI (v (37 + g))) (nI s) (nI T) _ (nI (v (37 + g))) σ = _
                unfold gX6_offer_3
                rw [if_pos (nI_lt (by omega) (by omega))]
              rw [e, z_v]
            · have e : z_on v m s nx t g = 1000000 := if_neg (fun z => by have := z.2; omega)
              rw [hcur t ht]
              exact congrArg nI (csB t e).symm
        · rw [if_pos (z_B0.mpr (by simpa using q)), nI_1]
          refine ⟨σ, rfl, fun _ _ => rfl, fun t ht => ?_⟩
          have e : z_on v m s nx t g = 1000000 := if_neg (fun z => q z.1)
          rw [hcur t ht]
          exact congrArg nI (csB t e).symm
      obtain ⟨σ1, s1, s2, s3⟩ := step (x_fx (α := Int32 → x_S → Option x_S) (fun _ _ => none) (fun K => fun x7 σ => gX6_fill_70 K33 32 m x3 (nI T) (nI s) K x7 σ) f)
      have hcs : ∀ t, z_cs v m s nx t g (B t) ≤ 1000000 := fun t => by have := hB t; unfold z_cs; split <;> omega
      obtain ⟨σ2, t1, t2, t3⟩ := ih (g + 1) f (fun t => z_cs v m s nx t g (B t)) σ1 (by omega) (by omega) hcs (z_S_c hS (fun k g1 g2 => s2 k (by omega))) (fun t ht => by rw [s2 _ (by omega)]; exact hnx t ht) s3
      exact ⟨σ2, Eq.trans s1 t1, fun c hc => (t2 c hc).trans (s2 c hc), t3⟩
