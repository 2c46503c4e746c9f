/-! ===== pure: tell, the system's table, all streets ===== -/
theorem z_fill33 {v : z_V} (hv : z_ok v) (m : Int32) {a e T : Nat} (he : e ≤ v 1) (hT : T < 100) : ∀ d s f σ, a + d = s + 1 → s < e → d < f → z_S σ 32 v → (∀ t, t ≤ T → σ (22 + (s + 1)) t = nI (z_cost v m e (e - (s + 1)) t)) → ∃ σ', x_fx (α := Int32 → x_S → Option x_S) (fun _ _ => none) (fun K => fun x6 σ => gX6_fill_33 32 m (nI a) (nI T) K x6 σ) f (nI s) σ = some σ' ∧ (∀ c, (c < 22 ∨ 22 + s < c) → σ' c = σ c) ∧ ∀ s2, a ≤ s2 → s2 ≤ s → ∀ t, t ≤ T → σ' (22 + s2) t = nI (z_cost v m e (e - s2) t) := by
  have h7 := hv.2.1
  have h6 := hv.2.2.1
  intro d
  induction d with
  | zero =>
    intro s f σ hd hse hf hS hnx
    cases f with
    | zero => exact absurd hf (by omega)
    | succ f =>
      refine ⟨σ, ?_, fun _ _ => rfl, fun s2 g1 g2 => absurd g2 (by omega)⟩
      show gX6_fill_33 32 m (nI a) (nI T) _ (nI s) σ = _
      unfold gX6_fill_33
      rw [if_pos (nI_lt (by omega) (by omega))]
  | succ d ih =>
    intro s f σ hd hse hf hS hnx
    cases f with
    | zero => exact absurd hf (by omega)
    | succ f =>
      have row : ∀ σ1 : x_S, (∀ t2, t2 ≤ T → σ1 (22 + s) t2 = nI (z_fold (z_cs v m s (z_cost v m e (e - (s + 1))) t2) 0 (v 2) 1000000)) → ∀ t, t ≤ T → σ1 (22 + s) t = nI (z_cost v m e (e - s) t) := by
        intro σ1 h t ht
        have e1 : e - s = (e - (s + 1)) + 1 := by omega
        have e2 : e - (e - (s + 1) + 1) = s := by omega
        rw [h t ht, e1]
        show _ = nI (z_fold (z_cs v m (e - (e - (s + 1) + 1)) (z_cost v m e (e - (s + 1))) t) 0 (v 2) 1000000)
        rw [e2]
      obtain ⟨σ1, s1, s2, s4⟩ := z_fill42 hv m (show s < v 1 by omega) hT (z_cost_le v m e (e - (s + 1))) (x_fx (α := Int32 → x_S → Option x_S) (fun _ _ => none) (fun K => fun x6 σ => gX6_fill_33 32 m (nI a) (nI T) K x6 σ) f) (nI a) hS hnx
      have u : gX6_fill_33 32 m (nI a) (nI T) (x_fx (α := Int32 → x_S → Option x_S) (fun _ _ => none) (fun K => fun x6 σ => gX6_fill_33 32 m (nI a) (nI T) K x6 σ) f) (nI s) σ = x_fx (α := Int32 → x_S → Option x_S) (fun _ _ => none) (fun K => fun x6 σ => gX6_fill_33 32 m (nI a) (nI T) K x6 σ) f (nI s + (-1)) σ1 := by
        refine Eq.trans ?_ s1
        generalize x_fx (α := Int32 → x_S → Option x_S) (fun _ _ => none) (fun K => fun x6 σ => gX6_fill_33 32 m (nI a) (nI T) K x6 σ) f = K33
        unfold gX6_fill_33
        rw [if_neg (nI_nlt (by omega) (by omega))]
      have S1 : z_S σ1 32 v := z_S_c hS (fun k g1 g2 => s2 k (by omega))
      cases d with
      | zero =>
        have es : s = a := by omega
        subst es
        cases f with
        | zero => exact absurd hf (by omega)
        | succ f =>
          refine ⟨σ1, u.trans ?_, fun c hc => s2 c (by omega), fun s2' g1 g2 t ht => ?_⟩
          · show gX6_fill_33 32 m (nI s) (nI T) _ (nI s + (-1)) σ1 = _
            unfold gX6_fill_33
            have hlt : nI s + (-1) < nI s := by
              cases s with
              | zero => decide
              | succ s => rw [pk_m1]; exact nI_lt (by omega) (by omega)
            rw [if_pos hlt]
          · have e2 : s2' = s := by omega
            subst e2
            exact row σ1 s4 t ht
      | succ d =>
        cases s with
        | zero => exact absurd hd (by omega)
        | succ s =>
          rw [pk_m1] at u
          obtain ⟨σ2, t1, t2, t4⟩ := ih s f σ1 (by omega) (by omega) (by omega) S1 (row σ1 s4)
          refine ⟨σ2, u.trans t1, fun c hc => (t2 c (by omega)).trans (s2 c (by omega)), fun s2' g1 g2 t ht => ?_⟩
          by_cases e2 : s2' = s + 1
          · subst e2
            exact (congrFun (t2 _ (by omega)) t).trans (row σ1 s4 t ht)
          · exact t4 s2' g1 (by omega) t ht
/-- the system's table of costs -/
theorem z_fillS {σ : x_S} {v : z_V} (hS : z_S σ 32 v) (hv : z_ok v) (m : Int32) {a b T : Nat} (hab : a ≤ b) (hb : b < v 1) (hT : T < 100) : ∃ σ', fX6_fill 32 m (nI a) (nI b) (nI T) σ = some σ' ∧ (∀ c, (c < 22 ∨ 30 ≤ c) → σ' c = σ c) ∧ ∀ s, a ≤ s → s ≤ b + 1 → ∀ t, t ≤ T → σ' (22 + s) t = nI (z_cost v m (b + 1) (b + 1 - s) t) := by
  have h7 := hv.2.1
  have h6 := hv.2.2.1
  obtain ⟨f1, f2, f3⟩ := z_fold_0 (22 + (b + 1)) 0 0 (T + 1) 0 σ
  have S1 : z_S (z_fold (fun i σ => x_u σ (22 + (b + 1)) (0 + i) 0) 0 (T + 1) σ) 32 v := z_S_c hS (fun k g1 g2 => f1 k (by omega))
  have f4 : ∀ t, t ≤ T → z_fold (fun i σ => x_u σ (22 + (b + 1)) (0 + i) 0) 0 (T + 1) σ (22 + (b + 1)) t = 0 := by
    intro t ht
    have := f3 t (Nat.zero_le _) (by omega)
    rw [Nat.zero_add] at this
    exact this
  obtain ⟨σ', t1, t2, t4⟩ := z_fill33 hv m (a := a) (e := b + 1) (T := T) (by omega) hT (b + 1 - a) b x_F (z_fold (fun i σ => x_u σ (22 + (b + 1)) (0 + i) 0) 0 (T + 1) σ) (by omega) (by omega) (z_fuel (by omega)) S1 (fun t ht => by
    rw [f4 t ht, Nat.sub_self]
    rfl)
  refine ⟨σ', ?_, fun c hc => (t2 c (by omega)).trans (f1 c (by omega)), fun s g1 g2 t ht => ?_⟩
  · unfold fX6_fill bX6_fill_3
    refine (z_loopS (N := T + 1) (r := fun a1 => bX6_fill_33 32 m (nI a) (nI T) (nI b) a1) (f := fun i σ => x_u σ (22 + (b + 1)) (0 + i) 0) (fun K u i hi => ?_) (fun K u => ?_) (T + 1) x_F 0 σ (by omega) (z_fuel (by omega))).trans t1
    · show gX6_fill_3 32 m (nI a) (nI b) (nI T) K (nI i) u = _
      unfold gX6_fill_3
      rw [if_neg (nI_nlt (by omega) (by omega)), nI_1, z_gi (n := 8) (by omega) (by decide), z_gi (n := 100) (by omega) (by decide), z_w, z_cl (by omega), z_cl (by omega), nI_1, Nat.zero_add]
    · show gX6_fill_3 32 m (nI a) (nI b) (nI T) K (nI (T + 1)) u = _
      unfold gX6_fill_3
      rw [if_pos (nI_lt (by omega) (by omega))]
  · by_cases e : s = b + 1
    · subst e
      rw [t2 _ (by omega), f4 t ht, Nat.sub_self]
      rfl
    · exact t4 s g1 (by omega) t ht
