/-! ===== pure: Euclid, the tenths of the system ===== -/
theorem z_gcd1 (a b : Nat) : Nat.gcd b (a % b) = Nat.gcd a b := by rw [Nat.gcd_comm b, ← Nat.gcd_rec, Nat.gcd_comm]
theorem z_half3 {a b k : Nat} (h0 : 0 < b) (hb : b < 2 ^ (k + 1)) (hr : 0 < a % b) : b % (a % b) < 2 ^ k := by
  have h1 : a % b < b := Nat.mod_lt _ h0
  have h2 : b % (a % b) < a % b := Nat.mod_lt _ hr
  have h3 : b % (a % b) + a % b ≤ b := by
    have e := Nat.div_add_mod b (a % b)
    have q : 1 ≤ b / (a % b) := (Nat.one_le_div_iff hr).mpr (Nat.le_of_lt h1)
    have := Nat.mul_le_mul_left (a % b) q
    omega
  rw [Nat.pow_succ] at hb
  omega
theorem z_pow30 {k : Nat} (hk : k ≤ 29) : 2 ^ k ≤ 2 ^ 29 := Nat.pow_le_pow_right (by decide) hk
theorem z_gS {σ : x_S} : ∀ k a b c f, k ≤ 29 → a < 2 ^ 30 → b < 2 ^ k → c + 2 * k + 1 ≤ 100 → 2 * k + 1 < f → x_fx (α := Int32 → Int32 → Int32 → Option Int32) (fun _ _ _ => none) (fun K => fun x2 x3 x4 => gX7_commonDivisor_7 K x2 x3 x4 σ) f (nI a) (nI b) (nI c) = some (nI (Nat.gcd a b)) := by
  have st : ∀ (K : Int32 → Int32 → Int32 → Option Int32) a b c, a < 2 ^ 30 → b < 2 ^ 30 → 0 < b → c < 100 → gX7_commonDivisor_7 K (nI a) (nI b) (nI c) σ = K (nI b) (nI (a % b)) (nI (c + 1)) := by
    intro K a b c ha hb h0 hc
    have h1 : ¬ nI b = 0 := nI_ne0 h0 (by omega)
    unfold gX7_commonDivisor_7
    rw [if_neg (fun z => by have := (z_geL (a := c) (y := (100 : Int32)) 100 rfl (by omega) (by decide)).mp z; omega), if_neg h1, z_g h1, pk_rem (by omega) h0 (by omega), nI_1]
  have en : ∀ (K : Int32 → Int32 → Int32 → Option Int32) a c, c < 100 → gX7_commonDivisor_7 K (nI a) (nI 0) (nI c) σ = some (nI (Nat.gcd a 0)) := by
    intro K a c hc
    unfold gX7_commonDivisor_7
    rw [if_neg (fun z => by have := (z_geL (a := c) (y := (100 : Int32)) 100 rfl (by omega) (by decide)).mp z; omega), if_pos (show (nI 0 : Int32) = 0 from rfl), Nat.gcd_zero_right]
  intro k
  induction k with
  | zero =>
    intro a b c f hk ha hb hc hf
    have e : b = 0 := by omega
    subst e
    cases f with
    | zero => exact absurd hf (by omega)
    | succ f => exact en _ a c (by omega)
  | succ k ih =>
    intro a b c f hk ha hb hc hf
    have hp := z_pow30 hk
    have hb30 : b < 2 ^ 30 := by omega
    cases f with
    | zero => exact absurd hf (by omega)
    | succ f =>
      rcases Nat.eq_zero_or_pos b with h | h
      · subst h; exact en _ a c (by omega)
      · have h1 : a % b < b := Nat.mod_lt _ h
        refine (st _ a b c ha hb30 h (by omega)).trans ?_
        cases f with
        | zero => exact absurd hf (by omega)
        | succ f =>
          rcases Nat.eq_zero_or_pos (a % b) with h2 | h2
          · rw [h2]
            refine (en _ b (c + 1) (by omega)).trans ?_
            rw [← z_gcd1 a b, h2]
          · refine (st _ b (a % b) (c + 1) hb30 (by omega) h2 (by omega)).trans ?_
            refine (ih (a % b) (b % (a % b)) (c + 1 + 1) f (by omega) (by omega) (z_half3 h hb h2) (by omega) (by omega)).trans ?_
            rw [z_gcd1, z_gcd1]
theorem z_tenNeg {σ : x_S} {a4 : Int32} (h : a4 < 0) (f : Nat) (a1 a2 a3 a5 : Int32) : fX7_tenthsWithin_n (f + 1) 32 a1 a2 a3 a4 a5 σ = some 0 := by
  show hX7_tenthsWithin (fX7_tenthsWithin_n f) 32 a1 a2 a3 a4 a5 σ = _
  unfold hX7_tenthsWithin
  rw [if_neg (Int32.not_le.mpr h)]
theorem z_tenS {σ : x_S} {v : z_V} (hS : z_S σ 32 v) (hv : z_ok v) {g j p : Nat} (hg : g < v 2) (hj : j < v 1) (hp : p ≤ 10) : ∀ d s x f, s + d = j + 1 → d < f → x ≤ 9999 → fX7_tenthsWithin_n f 32 (nI g) (nI s) (nI j) (nI x) (nI p) σ = some (nI (z_ten p (z_O v (v (19 + g)) (v (25 + g))) (z_O v (v (19 + g)) (v (25 + g) + 1)) d s x)) := by
  have h7 := hv.2.1
  have h6 := hv.2.2.1
  obtain ⟨hk, hi, -, -⟩ := hv.2.2.2.2.2.2 g hg
  obtain ⟨e1, e2, -⟩ := hS.2.2.2.2.2.2 g hg
  intro d
  induction d with
  | zero =>
    intro s x f hs hf hx
    cases f with
    | zero => exact absurd hf (by omega)
    | succ f =>
      show hX7_tenthsWithin (fX7_tenthsWithin_n f) 32 (nI g) (nI s) (nI j) (nI x) (nI p) σ = _
      unfold hX7_tenthsWithin
      rw [if_pos (nI_pos' (by omega)), if_pos (nI_lt (by omega) (by omega))]
      rfl
  | succ d ih =>
    intro s x f hs hf hx
    cases f with
    | zero => exact absurd hf (by omega)
    | succ f =>
      have hs1 : s < v 1 := by omega
      have hrec : ∀ D : Nat, D ≤ 600 → fX7_tenthsWithin_n f 32 (nI g) (nI (s + 1)) (nI j) (nI x - nI D) (nI p) σ = some (nI (if D ≤ x then z_ten p (z_O v (v (19 + g)) (v (25 + g))) (z_O v (v (19 + g)) (v (25 + g) + 1)) d (s + 1) (x - D) else 0)) := by
        intro D hD
        by_cases c : D ≤ x
        · rw [if_pos c, pk_sub c]
          exact ih (s + 1) (x - D) f (by omega) (by omega) (by omega)
        · rw [if_neg c]
          cases f with
          | zero => exact absurd hf (by omega)
          | succ f => exact z_tenNeg (pk_sneg (by omega) (by omega)) f _ _ _ _
      have o1 := z_O_le (kd := v (19 + g)) (inc := v (25 + g)) (s := s) hv.1 (by omega) (hv.2.2.2.2.2.1 s hs1).2
      have o2 := z_O_le (kd := v (19 + g)) (inc := v (25 + g) + 1) (s := s) hv.1 (by omega) (hv.2.2.2.2.2.1 s hs1).2
      show hX7_tenthsWithin (fX7_tenthsWithin_n f) 32 (nI g) (nI s) (nI j) (nI x) (nI p) σ = _
      unfold hX7_tenthsWithin
      rw [if_pos (nI_pos' (by omega)), if_neg (nI_nlt (by omega) (by omega)), if_neg (nI_pos (by omega)), if_pos ((z_ltL (y := (7 : Int32)) 7 rfl (by omega) (by decide)).mpr (by omega)), z_gi (n := 6) (by omega) (by decide), z_gi (n := 6) (by omega) (by decide), z_cl (by omega), e1, e2, z_SO hS hv hs1 hk (by omega), z_p, nI_1, z_SO hS hv hs1 hk (by omega), z_p, nI_1, hrec _ o1, z_p, hrec _ o2, z_p, show (10 : Int32) - nI p = nI (10 - p) from pk_sub (a := 10) hp, pk_mul, pk_mul, nI_add]
      rfl
