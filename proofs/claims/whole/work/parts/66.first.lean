/-! ===== pure: tell, the first of the cheapest ===== -/
theorem z_lt0 {p : Nat} (h : p < 2 ^ 31) : ¬ nI p < (0 : Int32) := nI_nlt (b := 0) (Nat.zero_le _) h
theorem z_ge0 {p : Nat} (h : p < 2 ^ 31) : (0 : Int32) ≤ nI p := nI_le (a := 0) (Nat.zero_le _) h
/-- the first g from i on with P -/
theorem z_least1 (P : Nat → Prop) [DecidablePred P] : ∀ d i g, i + d = g → P g → ∃ h, i ≤ h ∧ h ≤ g ∧ P h ∧ ∀ k, i ≤ k → k < h → ¬ P k := by
  intro d
  induction d with
  | zero =>
    intro i g e hg
    have e2 : i = g := by omega
    subst e2
    exact ⟨i, Nat.le_refl _, Nat.le_refl _, hg, fun k h1 h2 => absurd h2 (by omega)⟩
  | succ d ih =>
    intro i g e hg
    by_cases q : P i
    · exact ⟨i, Nat.le_refl _, by omega, q, fun k h1 h2 => absurd h2 (by omega)⟩
    · obtain ⟨h, h1, h2, h3, h4⟩ := ih (i + 1) g (by omega) hg
      refine ⟨h, by omega, h2, h3, fun k g1 g2 => ?_⟩
      by_cases e2 : k = i
      · subst e2; exact q
      · exact h4 k (by omega) g2
theorem z_cs_is (v : z_V) (m : Int32) (s : Nat) (nx : Nat → Nat) (t : Nat) : ∀ d i a, z_fold (z_cs v m s nx t) i d a = a ∨ ∃ g, i ≤ g ∧ g < i + d ∧ z_on v m s nx t g = z_fold (z_cs v m s nx t) i d a := by
  intro d
  induction d with
  | zero => intro i a; exact Or.inl rfl
  | succ d ih =>
    intro i a
    rcases ih (i + 1) (z_cs v m s nx t i a) with h | ⟨g, g1, g2, g3⟩
    · by_cases c : z_on v m s nx t i < a
      · have e : z_cs v m s nx t i a = z_on v m s nx t i := if_pos c
        exact Or.inr ⟨i, Nat.le_refl _, by omega, e.symm.trans h.symm⟩
      · have e : z_cs v m s nx t i a = a := if_neg c
        exact Or.inl (h.trans e)
    · exact Or.inr ⟨g, by omega, by omega, g3⟩
/-- the first gesture of a cheapest row -/
theorem z_pick {v : z_V} {m : Int32} {s t : Nat} {nx : Nat → Nat} (h : z_fold (z_cs v m s nx t) 0 (v 2) 1000000 < 1000000) : ∃ g, g < v 2 ∧ z_on v m s nx t g = z_fold (z_cs v m s nx t) 0 (v 2) 1000000 ∧ ∀ k, k < g → ¬ z_on v m s nx t k = z_fold (z_cs v m s nx t) 0 (v 2) 1000000 := by
  rcases z_cs_is v m s nx t (v 2) 0 1000000 with q | ⟨g, -, g2, g3⟩
  · exact absurd h (by omega)
  · obtain ⟨k, h1, h2, h3, h4⟩ := z_least1 (fun g => z_on v m s nx t g = z_fold (z_cs v m s nx t) 0 (v 2) 1000000) g 0 g (by omega) g3
    exact ⟨k, by omega, h3, fun j hj => h4 j (Nat.zero_le _) hj⟩
theorem z_used {v : z_V} {m : Int32} {s t g C : Nat} {nx : Nat → Nat} (h : z_on v m s nx t g = C) (hC : C < 1000000) : v (37 + g) ≤ t ∧ nx (t - v (37 + g)) < 1000000 := by
  unfold z_on at h
  by_cases q : z_tl v m g s = true ∧ v (37 + g) ≤ t
  · rw [if_pos q] at h; exact ⟨q.2, by omega⟩
  · rw [if_neg q] at h; exact absurd hC (by omega)
section
variable {v : z_V} {m : Int32} {s t T C : Nat} {nx : Nat → Nat}
theorem z_firstS1 {σ : x_S} (hS : z_S σ 32 v) (hv : z_ok v) (hs : s < v 1) (hT : T < 100) (ht : t ≤ T) (hle : ∀ t, nx t ≤ 1000000) (hnx : ∀ t, t ≤ T → σ (22 + (s + 1)) t = nI (nx t)) (hC : C < 1000000) (h0 : σ (22 + s) t = nI C) {i : Nat} (hi : i < v 2) (K : Int32 → Option Int32) : gX6_firstOfCheapest_3 32 m (nI s) (nI t) K (nI i) σ = if z_on v m s nx t i = C then some (nI i) else K (nI (i + 1)) := by
  have h7 := hv.2.1
  have h6 := hv.2.2.1
  have hD := z_D_le hv hi hs
  obtain ⟨-, -, -, e4, -⟩ := hS.2.2.2.2.2.2 i hi
  have e4 : σ 38 i = nI (v (37 + i)) := e4
  obtain ⟨-, -, -, hk⟩ := hv.2.2.2.2.2.2 i hi
  have n1 := hle (t - v (37 + i))
  unfold gX6_firstOfCheapest_3
  rw [hS.2.2.1, if_neg (nI_ge hi (by omega)), z_gi (n := 6) (by omega) (by decide), show (32 : Nat) + 6 = 38 from rfl, z_cl (show i < 65536 by omega), e4, nI_1]
  by_cases c : v (37 + i) ≤ t
  · rw [pk_sub c, if_neg (z_lt0 (p := t - v (37 + i)) (by omega)), z_Stl hS hv m hi hs, z_p]
    by_cases q : z_tl v m i s = true
    · rw [if_neg (by rw [q]; decide), z_SD hS hv hi hs, z_p, nI_1, z_gi (n := 8) (by omega) (by decide), z_gi (n := 100) (by omega) (by decide), z_gi (n := 8) (by omega) (by decide), z_gi (n := 100) (by omega) (by decide), z_cl (show s + 1 < 65536 by omega), z_cl (show t - v (37 + i) < 65536 by omega), z_cl (show s < 65536 by omega), z_cl (show t < 65536 by omega), h0, hnx _ (by omega), nI_add]
      have e : z_on v m s nx t i = z_D v i s + nx (t - v (37 + i)) := if_pos ⟨q, c⟩
      rw [e]
      by_cases c2 : z_D v i s + nx (t - v (37 + i)) = C
      · rw [if_pos c2, if_pos ((nI_eq (by omega) (by omega)).mpr c2)]
      · rw [if_neg c2, if_neg (fun z => c2 ((nI_eq (by omega) (by omega)).mp z))]
    · have e : z_on v m s nx t i = 1000000 := if_neg (fun z => q z.1)
      rw [if_pos (z_B0.mpr (by simpa using q)), if_neg (by omega)]
  · have e : z_on v m s nx t i = 1000000 := if_neg (fun z => c z.2)
    rw [if_pos (pk_sneg (by omega) (by omega)), if_neg (by omega)]
theorem z_firstS {σ : x_S} (hS : z_S σ 32 v) (hv : z_ok v) (hs : s < v 1) (hT : T < 100) (ht : t ≤ T) (hle : ∀ t, nx t ≤ 1000000) (hnx : ∀ t, t ≤ T → σ (22 + (s + 1)) t = nI (nx t)) (hC : C < 1000000) (h0 : σ (22 + s) t = nI C) {g : Nat} (hg : g < v 2) (hg1 : z_on v m s nx t g = C) (hg2 : ∀ k, k < g → ¬ z_on v m s nx t k = C) : fX6_firstOfCheapest 32 m (nI s) (nI t) σ = some (nI g) := by
  have h6 := hv.2.2.1
  have key : ∀ d i f, i + d = g → d < f → x_fx (α := Int32 → Option Int32) (fun _ => none) (fun K => fun x5 => gX6_firstOfCheapest_3 32 m (nI s) (nI t) K x5 σ) f (nI i) = some (nI g) := by
    intro d
    induction d with
    | zero =>
      intro i f hi hf
      cases f with
      | zero => exact absurd hf (by omega)
      | succ f =>
        have e : i = g := by omega
        subst e
        show gX6_firstOfCheapest_3 32 m (nI s) (nI t) (x_fx _ _ f) (nI i) σ = _
        exact (z_firstS1 hS hv hs hT ht hle hnx hC h0 hg _).trans (if_pos hg1)
    | succ d ih =>
      intro i f hi hf
      cases f with
      | zero => exact absurd hf (by omega)
      | succ f =>
        show gX6_firstOfCheapest_3 32 m (nI s) (nI t) (x_fx _ _ f) (nI i) σ = _
        exact (z_firstS1 hS hv hs hT ht hle hnx hC h0 (by omega) _).trans ((if_neg (hg2 i (by omega))).trans (ih (i + 1) f (by omega) (by omega)))
  exact key g 0 x_F (by omega) (z_fuel (by omega))
theorem z_firstM1 {τ : x_S} (hM : z_M τ 0 v) (hv : z_ok v) (hs : s < v 1) (ht : t < 100) (hle : ∀ t, nx t ≤ 1000000) (hnx : ∀ t, t < 100 → τ 8 (100 * (s + 1) + t) = nI (nx t)) (hC : C < 1000000) (h0 : τ 8 (100 * s + t) = nI C) {i : Nat} (hi : i < v 2) (K97 : Int32 → Int32 → Int32 → x_S → Option (Int32 × x_S)) (K : Int32 → x_S → Option (Int32 × x_S)) (x2 x5 x6 : Int32) : gX8_tell_109 K97 m x2 x5 x6 (nI t) (nI s) K (nI i) τ = if z_on v m s nx t i = C then K97 (nI t - nI (v (37 + i))) (nI i) (nI (s + 1)) τ else K (nI (i + 1)) τ := by
  have h7 := hv.2.1
  have h6 := hv.2.2.1
  have hD := z_D_le hv hi hs
  obtain ⟨-, -, -, e4, -⟩ := hM.2.2.2.2.2.2 i hi
  rw [Nat.zero_add] at e4
  have hon : z_on v m s nx t i ≤ 1000600 := by
    have := hle (t - v (37 + i))
    unfold z_on
    split <;> omega
  unfold gX8_tell_109
  rw [z_onBy hM hv m hi hs ht hnx, z_p, z_e100, z_gi (n := 800) (by omega) (by decide), z_cl (by omega), h0]
  by_cases c : z_on v m s nx t i = C
  · rw [if_pos c, if_pos ((nI_eq (by omega) (by omega)).mpr c), show (37 : Int32) + nI i = nI (37 + i) from nI_add 37 i, z_gi (n := 1372) (by omega) (by decide), z_cl (by omega), e4, nI_1]
  · rw [if_neg c, if_neg (fun z => c ((nI_eq (by omega) (by omega)).mp z)), nI_1]
theorem z_firstM {τ : x_S} (hM : z_M τ 0 v) (hv : z_ok v) (hs : s < v 1) (ht : t < 100) (hle : ∀ t, nx t ≤ 1000000) (hnx : ∀ t, t < 100 → τ 8 (100 * (s + 1) + t) = nI (nx t)) (hC : C < 1000000) (h0 : τ 8 (100 * s + t) = nI C) {g : Nat} (hg : g < v 2) (hg1 : z_on v m s nx t g = C) (hg2 : ∀ k, k < g → ¬ z_on v m s nx t k = C) (K97 : Int32 → Int32 → Int32 → x_S → Option (Int32 × x_S)) (x2 x5 x6 : Int32) : bX8_tell_109 K97 m x2 x5 x6 (nI t) (nI s) 0 τ = K97 (nI t - nI (v (37 + g))) (nI g) (nI (s + 1)) τ := by
  have h6 := hv.2.2.1
  have key : ∀ d i f, i + d = g → d < f → x_fx (α := Int32 → x_S → Option (Int32 × x_S)) (fun _ _ => none) (fun K => fun x8 σ => gX8_tell_109 K97 m x2 x5 x6 (nI t) (nI s) K x8 σ) f (nI i) τ = K97 (nI t - nI (v (37 + g))) (nI g) (nI (s + 1)) τ := by
    intro d
    induction d with
    | zero =>
      intro i f hi hf
      cases f with
      | zero => exact absurd hf (by omega)
      | succ f =>
        have e : i = g := by omega
        subst e
        show gX8_tell_109 K97 m x2 x5 x6 (nI t) (nI s) (x_fx _ _ f) (nI i) τ = _
        exact (z_firstM1 hM hv hs ht hle hnx hC h0 hg K97 _ x2 x5 x6).trans (if_pos hg1)
    | succ d ih =>
      intro i f hi hf
      cases f with
      | zero => exact absurd hf (by omega)
      | succ f =>
        show gX8_tell_109 K97 m x2 x5 x6 (nI t) (nI s) (x_fx _ _ f) (nI i) τ = _
        exact (z_firstM1 hM hv hs ht hle hnx hC h0 (by omega) K97 _ x2 x5 x6).trans ((if_neg (hg2 i (by omega))).trans (ih (i + 1) f (by omega) (by omega)))
  exact key g 0 x_F (by omega) (z_fuel (by omega))
end
