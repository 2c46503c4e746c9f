/-! ===== pure: saved, worst, shut, quick ===== -/
theorem z_mean (a : Int32) (σ τ : x_S) : ∃ r, fX7_isMeaning a σ = some r ∧ fX8_isMeans a τ = some r := by
  unfold fX7_isMeaning fX8_isMeans
  rw [z_isWithin, z_p, z_g (z_Wand _ _ _), show (0 : Int64) = (0 : Int32).toInt64 from rfl, show (3 : Int64) = (3 : Int32).toInt64 from rfl, z_in64, z_p, z_g (z_Wand _ _ _)]
  exact ⟨_, rfl, rfl⟩
/-- streets a up to b -/
theorem z_T.stretch {σ τ : x_S} {v : z_V} (h : z_T σ τ v) (a b : Int32) : (fX7_isStretch a b σ = some 0 ∧ fX8_areStreets a b τ = some 0) ∨ ∃ i j, i ≤ j ∧ j < v 1 ∧ a = nI i ∧ b = nI j ∧ fX7_isStretch a b σ = some 1 ∧ fX8_areStreets a b τ = some 1 := by
  have h7 := h.1.2.1
  unfold fX7_isStretch fX8_areStreets
  rcases h.str a with ⟨h1, h2⟩ | ⟨i, hi, rfl, h1, h2⟩
  · exact Or.inl ⟨by rw [h1, z_p, if_pos rfl], by rw [h2, z_p, if_pos rfl]⟩
  · rcases h.str b with ⟨h3, h4⟩ | ⟨j, hj, rfl, h3, h4⟩
    · exact Or.inl ⟨by rw [h1, h3, z_p, z_p, if_neg z_10, if_pos rfl], by rw [h2, h4, z_p, z_p, if_neg z_10, if_pos rfl]⟩
    · by_cases q : j < i
      · exact Or.inl ⟨by rw [h1, h3, z_p, z_p, if_neg z_10, if_neg z_10, if_pos (nI_lt q (by omega))], by rw [h2, h4, z_p, z_p, if_neg z_10, if_neg z_10, if_pos (nI_lt q (by omega))]⟩
      · exact Or.inr ⟨i, j, by omega, hj, rfl, rfl, by rw [h1, h3, z_p, z_p, if_neg z_10, if_neg z_10, if_neg (nI_nlt (by omega) (by omega))], by rw [h2, h4, z_p, z_p, if_neg z_10, if_neg z_10, if_neg (nI_nlt (by omega) (by omega))]⟩
/-- a gesture by which such a thing can be told in a street -/
def z_tl (v : z_V) (m : Int32) (g s : Nat) : Bool := decide (nI (v (31 + g)) = m) && z_seen v g s
theorem z_Stl {σ : x_S} {c : Nat} {v : z_V} (hS : z_S σ c v) (hv : z_ok v) (m : Int32) {g s : Nat} (hg : g < v 2) (hs : s < v 1) : fX2_tells c (nI g) m (nI s) σ = some (z_B (z_tl v m g s)) := by
  have h6 := hv.2.2.1
  obtain ⟨-, -, e3, -⟩ := hS.2.2.2.2.2.2 g hg
  unfold fX2_tells z_tl
  rw [z_gi (n := 6) (by omega) (by decide), z_cl (by omega), e3]
  by_cases q : nI (v (31 + g)) = m
  · rw [if_pos q, z_Sseen hS hv hg hs, z_p]
    cases hz : z_seen v g s <;> simp [z_B, q]
  · rw [if_neg q]
    simp [z_B, q]
theorem z_Mtl {τ : x_S} {v : z_V} (hM : z_M τ 0 v) (hv : z_ok v) (m : Int32) {g s : Nat} (hg : g < v 2) (hs : s < v 1) : fX8_tells (nI g) m (nI s) τ = some (z_B (z_tl v m g s)) := by
  have h6 := hv.2.2.1
  obtain ⟨-, -, e3, -⟩ := hM.2.2.2.2.2.2 g hg
  rw [Nat.zero_add] at e3
  unfold fX8_tells z_tl
  rw [show (31 : Int32) + nI g = nI (31 + g) from nI_add 31 g, z_gi (n := 1372) (by omega) (by decide), z_cl (by omega), e3]
  by_cases q : nI (v (31 + g)) = m
  · rw [if_pos q, z_Mseen hM hv hg hs, z_p]
    cases hz : z_seen v g s <;> simp [z_B, q]
  · rw [if_neg q]
    simp [z_B, q]
def z_lt (v : z_V) (m : Int32) (s : Nat) (g : Nat) (a : Int32) : Int32 := if z_tl v m g s = true then (if a = -1000000 then nI (v (37 + g)) else if a ≤ nI (v (37 + g)) then a else nI (v (37 + g))) else a
def z_least (v : z_V) (m : Int32) (s : Nat) : Int32 := z_fold (z_lt v m s) 0 (v 2) (-1000000)
theorem z_Sleast {σ : x_S} {v : z_V} (hS : z_S σ 32 v) (hv : z_ok v) (m : Int32) {s : Nat} (hs : s < v 1) : fX2_leastTime 32 m (nI s) σ = some (z_least v m s) := by
  have h6 := hv.2.2.1
  unfold fX2_leastTime bX2_leastTime_6
  refine z_loop (N := v 2) (r := fun a => some a) (f := z_lt v m s) (fun K a i hi => ?_) (fun K a => ?_) (v 2) x_F 0 _ (by omega) (z_fuel (by omega))
  · obtain ⟨-, -, -, e4, -⟩ := hS.2.2.2.2.2.2 i hi
    have e4 : σ 38 i = nI (v (37 + i)) := e4
    show gX2_leastTime_6 32 m (nI s) K a (nI i) σ = _
    unfold gX2_leastTime_6 z_lt bX2_leastTime_43
    rw [hS.2.2.1, if_neg (nI_ge hi (by omega)), z_Stl hS hv m hi hs, z_p, z_gi (n := 6) (by omega) (by decide), z_gi (n := 6) (by omega) (by decide), z_cl (by omega), e4, nI_1]
    by_cases q : z_tl v m i s = true
    · rw [if_neg (by rw [q]; decide), if_pos q]
      by_cases q2 : a = -1000000
      · rw [if_pos q2, if_pos q2]
      · rw [if_neg q2, if_neg q2]
        by_cases q3 : a ≤ nI (v (37 + i))
        · rw [if_pos q3, if_pos q3]
        · rw [if_neg q3, if_neg q3]
    · rw [if_pos (z_B0.mpr (by simpa using q)), if_neg q]
  · show gX2_leastTime_6 32 m (nI s) K a (nI (v 2)) σ = _
    unfold gX2_leastTime_6
    rw [hS.2.2.1, if_pos (Int32.le_refl _)]
theorem z_Mleast {τ : x_S} {v : z_V} (hM : z_M τ 0 v) (hv : z_ok v) (m : Int32) {s : Nat} (hs : s < v 1) : fX8_soonest m (nI s) τ = some (z_least v m s) := by
  have h6 := hv.2.2.1
  have hn : τ 1 2 = nI (v 2) := hM.2.2.1
  unfold fX8_soonest bX8_soonest_6
  refine z_loop (N := v 2) (r := fun a => some a) (f := z_lt v m s) (fun K a i hi => ?_) (fun K a => ?_) (v 2) x_F 0 _ (by omega) (z_fuel (by omega))
  · obtain ⟨-, -, -, e4, -⟩ := hM.2.2.2.2.2.2 i hi
    rw [Nat.zero_add] at e4
    show gX8_soonest_6 m (nI s) K a (nI i) τ = _
    unfold gX8_soonest_6 z_lt bX8_soonest_52 bX8_soonest_53
    rw [z_c2, hn, if_neg (nI_ge hi (by omega)), z_Mtl hM hv m hi hs, z_p, show (37 : Int32) + nI i = nI (37 + i) from nI_add 37 i, z_gi (n := 1372) (by omega) (by decide), z_gi (n := 1372) (by omega) (by decide), z_cl (by omega), e4, nI_1, if_pos rfl, if_neg z_10]
    by_cases q : z_tl v m i s = true
    · rw [if_neg (by rw [q]; decide), if_pos q]
      by_cases q2 : a = -1000000
      · rw [if_pos q2, if_pos q2]
      · rw [if_neg q2, if_neg q2]
        by_cases q3 : a ≤ nI (v (37 + i))
        · rw [if_pos q3, if_pos q3]
        · rw [if_neg q3, if_neg q3]
    · rw [if_pos (z_B0.mpr (by simpa using q)), if_neg q]
  · show gX8_soonest_6 m (nI s) K a (nI (v 2)) τ = _
    unfold gX8_soonest_6
    rw [z_c2, hn, if_pos (Int32.le_refl _)]
/-- shut -/
theorem o_shut {σ τ : x_S} {v : z_V} (h : z_T σ τ v) (hst : (σ 32 0 = 1 ∧ τ 0 1 = 1) ∨ (σ 32 0 = 0 ∧ τ 0 1 = 0 ∧ v 1 = 0 ∧ v 2 = 0)) (a1 : Int32) : z_rd (fX7_shut a1 σ) (fX8_shut a1 τ) := by
  have h7 := h.1.2.1
  unfold z_rd fX7_shut fX8_shut
  rcases hst with ⟨s1, s2⟩ | ⟨s1, s2, -⟩
  · rw [s1, s2, if_neg z_10, if_neg z_10]
    obtain ⟨r, r1, r2⟩ := z_mean a1 σ τ
    rw [r1, r2, z_p, z_p]
    by_cases q : r = 0
    · rw [if_pos q, if_pos q]; exact ⟨_, rfl, rfl⟩
    · rw [if_neg q, if_neg q]
      refine ⟨z_fold (z_bits (fun s => decide (z_least v a1 s = -1000000))) 0 (v 1) 0, ?_, ?_⟩
      · unfold fX2_streetsWithout bX2_streetsWithout_4
        refine (congrArg (fun o => x_p o (fun r6 => some r6)) (z_loop (N := v 1) (r := fun a => some a) (f := z_bits (fun s => decide (z_least v a1 s = -1000000))) (fun K a i hi => ?_) (fun K a => ?_) (v 1) x_F 0 0 (by omega) (z_fuel (by omega)))).trans rfl
        · show gX2_streetsWithout_4 32 a1 K a (nI i) σ = _
          unfold gX2_streetsWithout_4 z_bits
          rw [h.2.1.2.1, if_neg (nI_ge hi (by omega)), z_Sleast h.2.1 h.1 a1 hi, z_p, nI_1]
          by_cases c : z_least v a1 i = -1000000
          · rw [if_pos c, if_pos (by simpa using c)]
          · rw [if_neg c, if_neg (by simpa using c)]
        · show gX2_streetsWithout_4 32 a1 K a (nI (v 1)) σ = _
          unfold gX2_streetsWithout_4
          rw [h.2.1.2.1, if_pos (Int32.le_refl _)]
      · unfold bX8_shut_24
        have hn : τ 1 1 = nI (v 1) := h.2.2.2.1
        refine z_loop (N := v 1) (r := fun a => some a) (f := z_bits (fun s => decide (z_least v a1 s = -1000000))) (fun K a i hi => ?_) (fun K a => ?_) (v 1) x_F 0 0 (by omega) (z_fuel (by omega))
        · show gX8_shut_24 a1 K a (nI i) τ = _
          unfold gX8_shut_24 z_bits
          rw [z_c1, hn, if_neg (nI_ge hi (by omega)), z_Mleast h.2.2 h.1 a1 hi, z_p, nI_1]
          by_cases c : z_least v a1 i = -1000000
          · rw [if_pos c, if_pos (by simpa using c)]
          · rw [if_neg c, if_neg (by simpa using c)]
        · show gX8_shut_24 a1 K a (nI (v 1)) τ = _
          unfold gX8_shut_24
          rw [z_c1, hn, if_pos (Int32.le_refl _)]
  · rw [s1, s2, if_pos rfl, if_pos rfl]; exact ⟨_, rfl, rfl⟩
/-- quick -/
theorem o_quick {σ τ : x_S} {v : z_V} (h : z_T σ τ v) (a1 a2 a3 : Int32) : z_rd (fX7_quick a1 a2 a3 σ) (fX8_quick a1 a2 a3 τ) := by
  have h7 := h.1.2.1
  unfold z_rd fX7_quick fX8_quick
  obtain ⟨r, r1, r2⟩ := z_mean a1 σ τ
  rw [r1, r2, z_p, z_p]
  by_cases q : r = 0
  · rw [if_pos q, if_pos q]; exact ⟨_, rfl, rfl⟩
  · rw [if_neg q, if_neg q]
    rcases h.stretch a2 a3 with ⟨h1, h2⟩ | ⟨i, j, hij, hj, rfl, rfl, h1, h2⟩
    · rw [h1, h2, z_p, z_p, if_pos rfl, if_pos rfl]; exact ⟨_, rfl, rfl⟩
    · rw [h1, h2, z_p, z_p, if_neg z_10, if_neg z_10]
      unfold bX7_quick_25 bX8_quick_25
      have key : ∀ d n i a, i + d = j + 1 → d < n → ∃ r, x_fx (α := Int32 → Int32 → Option Int32) (fun _ _ => none) (fun K => fun x4 x5 => gX7_quick_25 a1 (nI j) K x4 x5 σ) n a (nI i) = some r ∧ x_fx (α := Int32 → Int32 → Option Int32) (fun _ _ => none) (fun K => fun x4 x5 => gX8_quick_25 a1 (nI j) K x4 x5 τ) n a (nI i) = some r := by
        intro d
        induction d with
        | zero =>
          intro n i a hi hn
          cases n with
          | zero => exact absurd hn (by omega)
          | succ n =>
            show ∃ r, gX7_quick_25 a1 (nI j) _ a (nI i) σ = some r ∧ gX8_quick_25 a1 (nI j) _ a (nI i) τ = some r
            unfold gX7_quick_25 gX8_quick_25
            rw [if_pos (nI_lt (by omega) (by omega)), if_pos (nI_lt (by omega) (by omega))]
            exact ⟨_, rfl, rfl⟩
        | succ d ih =>
          intro n i a hi hn
          cases n with
          | zero => exact absurd hn (by omega)
          | succ n =>
            show ∃ r, gX7_quick_25 a1 (nI j) (x_fx _ _ n) a (nI i) σ = some r ∧ gX8_quick_25 a1 (nI j) (x_fx _ _ n) a (nI i) τ = some r
            unfold gX7_quick_25 gX8_quick_25
            rw [if_neg (nI_nlt (by omega) (by omega)), if_neg (nI_nlt (by omega) (by omega)), z_Sleast h.2.1 h.1 a1 (by omega), z_Mleast h.2.2 h.1 a1 (by omega), z_p, z_p]
            by_cases c : z_least v a1 i = -1000000
            · rw [if_pos c, if_pos c]; exact ⟨_, rfl, rfl⟩
            · rw [if_neg c, if_neg c, z_p, nI_1]
              exact ih n (i + 1) _ (by omega) (by omega)
      exact key (j + 1 - i) x_F i 0 (by omega) (z_fuel (by omega))
/-- saved -/
theorem o_saved {σ τ : x_S} {v : z_V} (h : z_T σ τ v) (a1 : Int32) : z_rd (fX7_saved a1 σ) (fX8_saved a1 τ) := by
  have h7 := h.1.2.1
  have h6 := h.1.2.2.1
  unfold z_rd fX7_saved fX8_saved
  rcases h.ges a1 with ⟨h1, h2⟩ | ⟨g, hg, rfl, h1, h2⟩
  · rw [h1, h2, z_p, z_p, if_pos rfl, if_pos rfl]; exact ⟨_, rfl, rfl⟩
  · rw [h1, h2, z_p, z_p, if_neg z_10, if_neg z_10]
    obtain ⟨hk, hi, -, -⟩ := h.1.2.2.2.2.2.2 g hg
    obtain ⟨e1, e2, -⟩ := h.2.1.2.2.2.2.2.2 g hg
    obtain ⟨f1, f2, -⟩ := h.2.2.2.2.2.2.2.2 g hg
    rw [Nat.zero_add] at f1 f2
    have e1 : σ 35 g = nI (v (19 + g)) := e1
    have e2 : σ 36 g = nI (v (25 + g)) := e2
    refine ⟨z_fold (fun s a => a + (nI (z_D v g s) - nI (z_U v (v (19 + g)) (v (25 + g)) s / 2))) 0 (v 1) 0, ?_, ?_⟩
    · unfold bX7_saved_15
      refine z_loop (N := v 1) (r := fun a => some a) (f := fun s a => a + (nI (z_D v g s) - nI (z_U v (v (19 + g)) (v (25 + g)) s / 2))) (fun K a i hi2 => ?_) (fun K a => ?_) (v 1) x_F 0 0 (by omega) (z_fuel (by omega))
      · show gX7_saved_15 (nI g) K a (nI i) σ = _
        have hU := z_U_le (kd := v (19 + g)) (s := i) h.1.1 (inc := v (25 + g)) (by omega) (h.1.2.2.2.2.2.1 i hi2).2
        unfold gX7_saved_15 fX2_owesIfKnown
        rw [h.2.1.2.1, if_neg (nI_ge hi2 (by omega)), z_SD h.2.1 h.1 hg hi2, z_p, z_gi (n := 6) (by omega) (by decide), z_gi (n := 6) (by omega) (by decide), z_cl (by omega), e1, e2, z_SU h.2.1 h.1 hi2 hk (by omega), z_p, z_half (by omega), z_p, nI_1]
      · show gX7_saved_15 (nI g) K a (nI (v 1)) σ = _
        unfold gX7_saved_15
        rw [h.2.1.2.1, if_pos (Int32.le_refl _)]
    · unfold bX8_saved_15
      have hn : τ 1 1 = nI (v 1) := h.2.2.2.1
      refine z_loop (N := v 1) (r := fun a => some a) (f := fun s a => a + (nI (z_D v g s) - nI (z_U v (v (19 + g)) (v (25 + g)) s / 2))) (fun K a i hi2 => ?_) (fun K a => ?_) (v 1) x_F 0 0 (by omega) (z_fuel (by omega))
      · show gX8_saved_15 (nI g) K a (nI i) τ = _
        have hU := z_U_le (kd := v (19 + g)) (s := i) h.1.1 (inc := v (25 + g)) (by omega) (h.1.2.2.2.2.2.1 i hi2).2
        unfold gX8_saved_15
        rw [z_c1, hn, if_neg (nI_ge hi2 (by omega)), z_MD h.2.2 h.1 hg hi2, z_p, show (19 : Int32) + nI g = nI (19 + g) from nI_add 19 g, show (25 : Int32) + nI g = nI (25 + g) from nI_add 25 g, z_gi (n := 1372) (by omega) (by decide), z_gi (n := 1372) (by omega) (by decide), z_cl (by omega), z_cl (by omega), f1, f2, z_MU h.2.2 h.1 hi2 hk (by omega), z_p, z_half (by omega), nI_1]
      · show gX8_saved_15 (nI g) K a (nI (v 1)) τ = _
        unfold gX8_saved_15
        rw [z_c1, hn, if_pos (Int32.le_refl _)]
