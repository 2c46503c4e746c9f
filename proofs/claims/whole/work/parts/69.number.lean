/-! ===== pure: city, numbers ===== -/
theorem w_nextT (σ : x_S) : ∃ y, fX4_next σ = some y := by
  unfold fX4_next
  by_cases c1 : σ 13 5 < 0
  · exact ⟨_, if_pos c1⟩
  · rw [if_neg c1]
    by_cases c2 : σ 13 1 ≤ σ 13 5
    · exact ⟨_, if_pos c2⟩
    · rw [if_neg c2]
      by_cases c3 : (120 : Int32) ≤ σ 13 5
      · exact ⟨_, if_pos c3⟩
      · rw [if_neg c3]
        obtain ⟨j, hj, e⟩ := nI_of c1
        have hj2 : j < 120 := by
          rw [e] at c3
          exact Nat.not_le.mp (fun z => c3 ((z_geL (a := j) (y := (120 : Int32)) 120 rfl (by
            rcases Nat.lt_or_ge j (2 ^ 30) with q | q
            · exact q
            · exact absurd ((nI_leI (a := 120) (b := j) (by decide) hj).mpr z) c3) (by decide)).mpr z))
        rw [e, z_gi (n := 120) hj2 (by decide)]
        exact ⟨_, rfl⟩
theorem w_st0 {σ : x_S} {y : Int32} {c : Nat} (hc : c < 120) (hy : fX4_next σ = some y) (hw : z_W y 48 57 = 0) (K : Int32 → Int32 → Int32 → x_S → Option (Int32 × x_S)) (lo hi x5 x3 x4 : Int32) : gX4_readNumber_14 lo hi x5 K x3 x4 (nI c) σ = bX4_readNumber_79 lo hi x3 x4 x5 σ := by
  unfold gX4_readNumber_14
  rw [if_neg (fun z => by have := (z_geL (a := c) (y := (120 : Int32)) 120 rfl (by omega) (by decide)).mp z; omega), hy, z_p, z_isWithin, z_p, hw, if_pos rfl]
theorem w_st1 {σ : x_S} {y : Int32} {c : Nat} (hc : c < 120) (hy : fX4_next σ = some y) (hw : ¬ z_W y 48 57 = 0) (K : Int32 → Int32 → Int32 → x_S → Option (Int32 × x_S)) (lo hi x5 x3 x4 : Int32) : gX4_readNumber_14 lo hi x5 K x3 x4 (nI c) σ = K (x3 + 1) (if 2 ≤ x3 then x4 else (x4 * 10 + y) - 48) (nI (c + 1)) (x_u σ 13 5 (σ 13 5 + 1)) := by
  unfold gX4_readNumber_14 bX4_readNumber_58
  rw [if_neg (fun z => by have := (z_geL (a := c) (y := (120 : Int32)) 120 rfl (by omega) (by decide)).mp z; omega), hy, z_p, z_isWithin, z_p, if_neg hw]
  by_cases q : (2 : Int32) ≤ x3
  · rw [if_pos q, if_pos q, z_w, nI_1]
  · rw [if_neg q, if_neg q, z_p, z_w, nI_1]
/-- to the end of a run of figures -/
theorem w_run (lo hi x5 : Int32) : ∀ d c f x3 x4 σ, c + d = 120 → d < f → ∃ x3' x4' σ', x_fx (α := Int32 → Int32 → Int32 → x_S → Option (Int32 × x_S)) (fun _ _ _ _ => none) (fun K => fun x3 x4 x6 σ => gX4_readNumber_14 lo hi x5 K x3 x4 x6 σ) f x3 x4 (nI c) σ = bX4_readNumber_79 lo hi x3' x4' x5 σ' ∧ (∀ k, k ≠ 13 → σ' k = σ k) ∧ (∀ j, j ≠ 5 → σ' 13 j = σ 13 j) ∧ ∀ k, x3 = nI k → 3 ≤ k → k + d < 65536 → ∃ k', 3 ≤ k' ∧ k' < 65536 ∧ x3' = nI k' := by
  intro d
  induction d with
  | zero =>
    intro c f x3 x4 σ hc hf
    cases f with
    | zero => exact absurd hf (by omega)
    | succ f =>
      have e : c = 120 := by omega
      subst e
      refine ⟨x3, x4, σ, ?_, fun _ _ => rfl, fun _ _ => rfl, fun k h1 h2 h3 => ⟨k, h2, by omega, h1⟩⟩
      show gX4_readNumber_14 lo hi x5 _ x3 x4 (nI 120) σ = _
      unfold gX4_readNumber_14
      rw [if_pos (by decide)]
  | succ d ih =>
    intro c f x3 x4 σ hc hf
    cases f with
    | zero => exact absurd hf (by omega)
    | succ f =>
      obtain ⟨y, hy⟩ := w_nextT σ
      by_cases hw : z_W y 48 57 = 0
      · refine ⟨x3, x4, σ, ?_, fun _ _ => rfl, fun _ _ => rfl, fun k h1 h2 h3 => ⟨k, h2, by omega, h1⟩⟩
        show gX4_readNumber_14 lo hi x5 (x_fx _ _ f) x3 x4 (nI c) σ = _
        exact w_st0 (by omega) hy hw _ lo hi x5 x3 x4
      · obtain ⟨x3', x4', σ', r1, r2, r3, r4⟩ := ih (c + 1) f (x3 + 1) (if 2 ≤ x3 then x4 else (x4 * 10 + y) - 48) (x_u σ 13 5 (σ 13 5 + 1)) (by omega) (by omega)
        refine ⟨x3', x4', σ', ?_, fun k hk => (r2 k hk).trans (z_uk hk), fun j hj => (r3 j hj).trans (z_ui hj), fun k h1 h2 h3 => r4 (k + 1) (by rw [h1, nI_1]) (by omega) (by omega)⟩
        refine Eq.trans ?_ r1
        show gX4_readNumber_14 lo hi x5 (x_fx _ _ f) x3 x4 (nI c) σ = _
        exact w_st1 (by omega) hy hw _ lo hi x5 x3 x4
theorem w_dig1 : ∀ d, d < 10 → ¬ z_W (nI (48 + d)) 48 57 = 0 := by decide
/-- the numbers lo to hi -/
theorem w_Wk {k lo hi : Nat} (h1 : k < 65536) (h2 : lo < 65536) (h3 : hi < 65536) : (z_W (nI k) (nI lo) (nI hi) = 1 ∧ lo ≤ k ∧ k ≤ hi) ∨ z_W (nI k) (nI lo) (nI hi) = 0 := by
  unfold z_W
  by_cases c1 : lo ≤ k
  · rw [if_neg (nI_nlt c1 (by omega))]
    by_cases c2 : k ≤ hi
    · rw [if_neg (nI_nlt c2 (by omega))]; exact Or.inl ⟨rfl, c1, c2⟩
    · rw [if_pos (nI_lt (by omega) (by omega))]; exact Or.inr rfl
  · rw [if_pos (nI_lt (by omega) (by omega))]; exact Or.inr rfl
/-- one or two figures are read -/
theorem w_numE {σ0 τ0 σ τ : x_S} {n p c k lo hi : Nat} (ht : w_tp σ τ n) (h4 : σ 13 4 = 0) (h5 : σ 13 5 = nI (p + c)) (hp : p + c ≤ n) (g5 : τ 0 13 = nI p) (h2 : σ 13 2 = σ0 13 2) (hj : ∀ j, j ≠ 13 → j ≠ 14 → j ≠ 15 → τ 0 j = τ0 0 j) (hc : c = 1 ∨ c = 2) (hk : k ≤ 99) (hhi : hi ≤ 30) (hlo : lo ≤ 30) : ∃ x σ' r τ', bX4_readNumber_79 (nI lo) (nI hi) (nI c) (nI k) (nI p) σ = some (x, σ') ∧ bX8_readsNumber_113 (nI lo) (nI hi) (nI c) (nI k) τ = some (r, τ') ∧ (∀ c, c ≠ 13 → σ' c = σ c) ∧ (∀ c, c ≠ 0 → τ' c = τ c) ∧ ((r = 1 ∧ ∃ k p', lo ≤ k ∧ k ≤ hi ∧ x = nI k ∧ τ' 0 15 = nI k ∧ p < p' ∧ w_lv σ0 τ0 n p' σ' τ') ∨ (r = 0 ∧ w_ft σ0 τ0 σ' τ')) := by
  have hn := ht.2.2.1
  have e1 : ¬ nI c = 0 := fun z => by have := (nI_eq (a := c) (b := 0) (by omega) (by decide)).mp z; omega
  have e2 : nI c ≤ 2 := (z_leL (a := c) (y := (2 : Int32)) 2 rfl (by omega) (by decide)).mpr (by omega)
  unfold bX4_readNumber_79 bX8_readsNumber_113
  rw [if_neg e1, if_pos e2, z_isWithin, z_p, z_w, z_us, z_in64, z_p]
  rcases w_Wk (k := k) (lo := lo) (hi := hi) (by omega) (by omega) (by omega) with ⟨w, w1, w2⟩ | w
  · rw [w, if_neg z_10, if_neg z_10, z_ui (show 13 ≠ 15 by decide), g5, nI_add, z_w]
    refine ⟨nI k, σ, 1, x_u (x_u τ 0 15 (nI k)) 0 13 (nI (p + c)), rfl, rfl, fun _ _ => rfl, fun c hc => (z_uk hc).trans (z_uk hc), Or.inl ⟨rfl, k, p + c, w1, w2, rfl, ?_, by omega, w_tp_c ht rfl rfl ?_ ((z_uk (by decide)).trans (z_uk (by decide))), hp, h4, h5, z_us _ _ _ _, h2, fun j j1 j2 j3 => ?_⟩⟩
    · rw [z_ui (by decide), z_us]
    · rw [z_ui (by decide), z_ui (by decide)]
    · rw [z_ui j1, z_ui j3]; exact hj j j1 j2 j3
  · obtain ⟨σ1, s1, s2, s3, s4, s5, s6, s7⟩ := w_failAt h4 (nI p) 2
    rw [w, if_pos rfl, if_pos rfl, s1, z_v, w_refuse, z_b]
    refine ⟨nI k, σ1, 0, x_u (x_u τ 0 15 (nI k)) 0 14 2, rfl, rfl, s2, fun c hc => (z_uk hc).trans (z_uk hc), Or.inr ⟨rfl, 2, nI p, by decide, s3, s4, s5, z_us _ _ _ _, ?_, fun j j1 j2 j3 => ?_⟩⟩
    · rw [z_ui (by decide), z_ui (by decide)]; exact g5
    · rw [z_ui j2, z_ui j3]; exact hj j j1 j2 j3
/-- a number -/
theorem w_number {σ0 τ0 σ τ : x_S} {n p lo hi : Nat} (h : w_lv σ0 τ0 n p σ τ) (hhi : hi ≤ 30) (hlo : lo ≤ 30) : ∃ x σ' r τ', fX4_readNumber (nI lo) (nI hi) σ = some (x, σ') ∧ fX8_readsNumber (nI lo) (nI hi) τ = some (r, τ') ∧ (∀ c, c ≠ 13 → σ' c = σ c) ∧ (∀ c, c ≠ 0 → τ' c = τ c) ∧ ((r = 1 ∧ ∃ k p', lo ≤ k ∧ k ≤ hi ∧ x = nI k ∧ τ' 0 15 = nI k ∧ p < p' ∧ w_lv σ0 τ0 n p' σ' τ') ∨ (r = 0 ∧ w_ft σ0 τ0 σ' τ')) := by
  obtain ⟨ht, hp, h4, h5, g5, h2, hj⟩ := h
  have hn := ht.2.2.1
  obtain ⟨F, hF⟩ : ∃ F, x_F = F + 1 + 1 + 1 := ⟨4093, rfl⟩
  have hF2 : 200 < F + 1 := by have : x_F = 4096 := rfl; omega
  have one : ∀ i, (OfNat.ofNat i : Int32) = nI i := fun i => rfl
  have refS : ∀ (x : Int32) (σ1 : x_S), (∀ k, k ≠ 13 → σ1 k = σ k) → (∀ j, j ≠ 5 → σ1 13 j = σ 13 j) → ∃ σ', bX4_readNumber_88 x (nI p) σ1 = some (x, σ') ∧ (∀ c, c ≠ 13 → σ' c = σ c) ∧ w_ft σ0 τ0 σ' (x_u τ 0 14 1) := by
    intro x σ1 q1 q2
    obtain ⟨σ', s1, s2, s3, s4, s5, s6, s7⟩ := w_failAt ((q2 4 (by decide)).trans h4) (nI p) 1
    refine ⟨σ', ?_, fun c hc => (s2 c hc).trans (q1 c hc), 1, nI p, by decide, s3, s4, s5, z_us _ _ _ _, ?_, fun j j1 j2 j3 => ?_⟩
    · unfold bX4_readNumber_88
      rw [s1, z_v]
    · rw [z_ui (by decide)]; exact g5
    · rw [z_ui j2]; exact hj j j1 j2 j3
  have r37 : bX8_readsNumber_37 τ = some (0, x_u τ 0 14 1) := rfl
  unfold fX4_readNumber bX4_readNumber_14 fX8_readsNumber
  rw [h5, g5, show nI p + 1 = nI (p + 1) from nI_add p 1, show nI p + 2 = nI (p + 2) from nI_add p 2, hF]
  rcases w_fig ht (p := p) (by omega) with ⟨f1, f2⟩ | ⟨d0, hd0, hp0, e0, f1, f2⟩
  · -- no figure
    obtain ⟨y, y1, y2⟩ := f2 σ ht.1 rfl h5
    obtain ⟨σ', s1, s2, s3⟩ := refS 0 σ (fun _ _ => rfl) (fun _ _ => rfl)
    refine ⟨0, σ', 0, x_u τ 0 14 1, ?_, by rw [f1, z_p, if_pos rfl, r37], s2, fun c hc => z_uk hc, Or.inr ⟨rfl, s3⟩⟩
    refine Eq.trans ?_ s1
    show gX4_readNumber_14 (nI lo) (nI hi) (nI p) (x_fx _ _ (F + 1 + 1)) (nI 0) 0 (nI 0) σ = _
    rw [w_st0 (by decide) y1 y2]
    unfold bX4_readNumber_79
    rw [if_pos (show (nI 0 : Int32) = 0 from rfl)]
  · rw [f1, z_p, if_neg z_10]
    have y1 := f2 σ ht.1 rfl h5
    have v0 : (0 : Int32) * 10 + nI (48 + d0) - 48 = nI d0 := by
      rw [show (0 : Int32) * 10 + nI (48 + d0) = nI (0 + (48 + d0)) from nI_add 0 (48 + d0), show (48 : Int32) = nI 48 from rfl, pk_sub (by omega)]
      congr 1
      omega
    have t1 : ∀ K : Int32 → Int32 → Int32 → x_S → Option (Int32 × x_S), gX4_readNumber_14 (nI lo) (nI hi) (nI p) K 0 0 0 σ = K (nI 1) (nI d0) (nI 1) (x_u σ 13 5 (nI (p + 1))) := by
      intro K
      refine (w_st1 (c := 0) (by decide) y1 (w_dig1 d0 (by omega)) K (nI lo) (nI hi) (nI p) 0 0).trans ?_
      rw [if_neg (by decide), v0, h5, nI_1]
      rfl
    have T1 : w_tp (x_u σ 13 5 (nI (p + 1))) τ n := w_tp_c ht (z_ui (by decide)) (z_uk (by decide)) rfl rfl
    have a1 : x_u σ 13 5 (nI (p + 1)) 13 1 = nI n := (z_ui (by decide)).trans ht.1
    have b1 : x_u σ 13 5 (nI (p + 1)) 13 5 = nI (p + 1) := z_us _ _ _ _
    have R43 : ∀ (c : Nat) (k : Int32), c = 1 ∨ c = 2 → fX8_isFigure (nI (p + 1)) τ = some (if c = 1 then 0 else 1) → (c = 1 → k = nI d0) → (c = 2 → p + 1 < n ∧ k = ((10 * nI d0) + (τ 6 (p + 1))) - 48) → bX8_readsNumber_43 (nI lo) (nI hi) τ = bX8_readsNumber_113 (nI lo) (nI hi) (nI c) k (x_u τ 0 15 (nI d0)) := by
      intro c k hc hf h1 h2
      have hf2 : fX8_isFigure (nI (p + 1)) (x_u τ 0 15 (nI d0)) = fX8_isFigure (nI (p + 1)) τ := by
        unfold fX8_isFigure fX8_in
        rw [z_ui (show 8 ≠ 15 by decide), z_uk (show 6 ≠ 0 by decide)]
      have w1 : nI (48 + d0) - 48 = nI d0 := by rw [show (48 : Int32) = nI 48 from rfl, pk_sub (by omega)]; congr 1; omega
      unfold bX8_readsNumber_43 bX8_readsNumber_77
      rw [g5, z_gi (n := 120) (by omega) (by decide), z_w, z_cl (show p < 65536 by omega), e0, w1, z_ui (show 13 ≠ 15 by decide), g5, show nI p + 1 = nI (p + 1) from nI_add p 1, hf2, hf, z_p]
      rcases hc with rfl | rfl
      · rw [if_pos rfl, if_pos rfl, if_neg (by decide), z_us, h1 rfl]
        rfl
      · obtain ⟨g1, g2⟩ := h2 rfl
        rw [if_neg (by decide), if_pos rfl, z_gi (n := 120) (by omega) (by decide), z_cl (show p + 1 < 65536 by omega), z_us, z_uk (show 6 ≠ 0 by decide), ← g2]
        rfl
    have fin : ∀ (c : Nat) (k : Nat) (σc : x_S), (c = 1 ∨ c = 2) → k ≤ 99 → p + c ≤ n → (∀ j, j ≠ 13 → σc j = σ j) → (∀ j, j ≠ 5 → σc 13 j = σ 13 j) → σc 13 5 = nI (p + c) → ∃ x σ' r τ', bX4_readNumber_79 (nI lo) (nI hi) (nI c) (nI k) (nI p) σc = some (x, σ') ∧ bX8_readsNumber_113 (nI lo) (nI hi) (nI c) (nI k) (x_u τ 0 15 (nI d0)) = some (r, τ') ∧ (∀ c, c ≠ 13 → σ' c = σ c) ∧ (∀ c, c ≠ 0 → τ' c = τ c) ∧ ((r = 1 ∧ ∃ k p', lo ≤ k ∧ k ≤ hi ∧ x = nI k ∧ τ' 0 15 = nI k ∧ p < p' ∧ w_lv σ0 τ0 n p' σ' τ') ∨ (r = 0 ∧ w_ft σ0 τ0 σ' τ')) := by
      intro c k σc hc hk hpc q1 q2 q5
      obtain ⟨x, σ', r, τ', s1, s2, s3, s4, s5⟩ := w_numE (σ0 := σ0) (τ0 := τ0) (σ := σc) (τ := x_u τ 0 15 (nI d0)) (n := n) (p := p) (c := c) (k := k) (lo := lo) (hi := hi) (w_tp_c ht (q2 1 (by decide)) (q1 14 (by decide)) (z_ui (by decide)) (z_uk (by decide))) ((q2 4 (by decide)).trans h4) q5 hpc ((z_ui (by decide)).trans g5) ((q2 2 (by decide)).trans h2) (fun j j1 j2 j3 => (z_ui j3).trans (hj j j1 j2 j3)) hc hk hhi hlo
      exact ⟨x, σ', r, τ', s1, s2, fun c hc => (s3 c hc).trans (q1 c hc), fun c hc => (s4 c hc).trans (z_uk hc), s5⟩
    rcases w_fig ht (p := p + 1) (by omega) with ⟨f3, f4⟩ | ⟨d1, hd1, hp1, e1, f3, f4⟩
    · -- one figure
      obtain ⟨y, z1, z2⟩ := f4 _ a1 (z_uk (by decide)) b1
      obtain ⟨x, σ', r, τ', s1, s2, s3, s4, s5⟩ := fin 1 d0 _ (Or.inl rfl) (by omega) (by omega) (fun j hj => z_uk hj) (fun j hj => z_ui hj) b1
      refine ⟨x, σ', r, τ', ?_, ?_, s3, s4, s5⟩
      · refine Eq.trans (t1 _) (Eq.trans ?_ s1)
        show gX4_readNumber_14 (nI lo) (nI hi) (nI p) (x_fx _ _ (F + 1)) (nI 1) (nI d0) (nI 1) _ = _
        exact w_st0 (c := 1) (by decide) z1 z2 _ _ _ _ _ _
      · rw [f3, z_p, if_pos rfl, R43 1 (nI d0) (Or.inl rfl) (by rw [f3, if_pos rfl]) (fun _ => rfl) (fun z => absurd z (by decide))]
        exact s2
    · rw [f3, z_p, if_neg z_10]
      have z1 := f4 _ a1 (z_uk (by decide)) b1
      have v1 : nI d0 * 10 + nI (48 + d1) - 48 = nI (d0 * 10 + d1) := by
        rw [show (10 : Int32) = nI 10 from rfl, pk_mul, nI_add, show (48 : Int32) = nI 48 from rfl, pk_sub (by omega)]
        congr 1
        omega
      have v2 : (10 : Int32) * nI d0 + nI (48 + d1) - 48 = nI (d0 * 10 + d1) := by
        rw [show (10 : Int32) = nI 10 from rfl, pk_mul, nI_add, show (48 : Int32) = nI 48 from rfl, pk_sub (by omega)]
        congr 1
        omega
      have t2 : ∀ K : Int32 → Int32 → Int32 → x_S → Option (Int32 × x_S), gX4_readNumber_14 (nI lo) (nI hi) (nI p) K (nI 1) (nI d0) (nI 1) (x_u σ 13 5 (nI (p + 1))) = K (nI 2) (nI (d0 * 10 + d1)) (nI 2) (x_u (x_u σ 13 5 (nI (p + 1))) 13 5 (nI (p + 2))) := by
        intro K
        refine (w_st1 (c := 1) (by decide) z1 (w_dig1 d1 (by omega)) K (nI lo) (nI hi) (nI p) (nI 1) (nI d0)).trans ?_
        rw [if_neg (by decide), v1, b1, nI_1, nI_1]
      have k1 : ∀ j, j ≠ 13 → x_u (x_u σ 13 5 (nI (p + 1))) 13 5 (nI (p + 2)) j = σ j := fun j hj => (z_uk hj).trans (z_uk hj)
      have k2 : ∀ j, j ≠ 5 → x_u (x_u σ 13 5 (nI (p + 1))) 13 5 (nI (p + 2)) 13 j = σ 13 j := fun j hj => (z_ui hj).trans (z_ui hj)
      have b2 : x_u (x_u σ 13 5 (nI (p + 1))) 13 5 (nI (p + 2)) 13 5 = nI (p + 2) := z_us _ _ _ _
      rcases w_fig ht (p := p + 2) (by omega) with ⟨f5, f6⟩ | ⟨d2, hd2, hp2, e2, f5, f6⟩
      · obtain ⟨y, z3, z4⟩ := f6 _ ((k2 1 (by decide)).trans ht.1) (k1 14 (by decide)) b2
        obtain ⟨x, σ', r, τ', s1, s2, s3, s4, s5⟩ := fin 2 (d0 * 10 + d1) _ (Or.inr rfl) (by omega) (by omega) k1 k2 b2
        refine ⟨x, σ', r, τ', ?_, ?_, s3, s4, s5⟩
        · refine Eq.trans (t1 _) (Eq.trans ?_ s1)
          show gX4_readNumber_14 (nI lo) (nI hi) (nI p) (x_fx _ _ (F + 1)) (nI 1) (nI d0) (nI 1) _ = _
          refine Eq.trans (t2 _) ?_
          show gX4_readNumber_14 (nI lo) (nI hi) (nI p) (x_fx _ _ F) (nI 2) (nI (d0 * 10 + d1)) (nI 2) _ = _
          exact w_st0 (c := 2) (by decide) z3 z4 _ _ _ _ _ _
        · rw [f5, z_p, if_pos rfl, R43 2 (nI (d0 * 10 + d1)) (Or.inr rfl) (by rw [f3, if_neg (by decide)]) (fun z => absurd z (by decide)) (fun _ => ⟨hp1, by rw [e1, v2]⟩)]
          exact s2
      · -- three figures or more
        have z3 := f6 _ ((k2 1 (by decide)).trans ht.1) (k1 14 (by decide)) b2
        have t3 : ∀ K : Int32 → Int32 → Int32 → x_S → Option (Int32 × x_S), gX4_readNumber_14 (nI lo) (nI hi) (nI p) K (nI 2) (nI (d0 * 10 + d1)) (nI 2) (x_u (x_u σ 13 5 (nI (p + 1))) 13 5 (nI (p + 2))) = K (nI 3) (nI (d0 * 10 + d1)) (nI 3) (x_u (x_u (x_u σ 13 5 (nI (p + 1))) 13 5 (nI (p + 2))) 13 5 (nI (p + 3))) := by
          intro K
          refine (w_st1 (c := 2) (by decide) z3 (w_dig1 d2 (by omega)) K (nI lo) (nI hi) (nI p) (nI 2) (nI (d0 * 10 + d1))).trans ?_
          rw [if_pos (by decide), b2, nI_1, nI_1]
        obtain ⟨x3', x4', σ1, r1, r2, r3, r4⟩ := w_run (nI lo) (nI hi) (nI p) 117 3 F (nI 3) (nI (d0 * 10 + d1)) (x_u (x_u (x_u σ 13 5 (nI (p + 1))) 13 5 (nI (p + 2))) 13 5 (nI (p + 3))) (by decide) (by omega)
        obtain ⟨k', g1, g2, g3⟩ := r4 3 rfl (by decide) (by decide)
        obtain ⟨σ', s1, s2, s3⟩ := refS x4' σ1 (fun k hk => (r2 k hk).trans ((z_uk hk).trans (k1 k hk))) (fun j hj => (r3 j hj).trans ((z_ui hj).trans (k2 j hj)))
        refine ⟨x4', σ', 0, x_u τ 0 14 1, ?_, ?_, s2, fun c hc => z_uk hc, Or.inr ⟨rfl, s3⟩⟩
        · refine Eq.trans (t1 _) ?_
          show gX4_readNumber_14 (nI lo) (nI hi) (nI p) (x_fx _ _ (F + 1)) (nI 1) (nI d0) (nI 1) _ = _
          refine Eq.trans (t2 _) ?_
          show gX4_readNumber_14 (nI lo) (nI hi) (nI p) (x_fx _ _ F) (nI 2) (nI (d0 * 10 + d1)) (nI 2) _ = _
          refine Eq.trans (t3 _) (Eq.trans r1 ?_)
          refine Eq.trans ?_ s1
          unfold bX4_readNumber_79
          rw [g3, if_neg (fun z => by have := (nI_eq (a := k') (b := 0) (by omega) (by decide)).mp z; omega), if_neg (fun z => by have := (z_leL (a := k') (y := (2 : Int32)) 2 rfl (by omega) (by decide)).mp z; omega)]
        · rw [f5, z_p, if_neg z_10, r37]
