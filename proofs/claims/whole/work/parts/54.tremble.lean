/-! ===== pure: tremble ===== -/
theorem z_fin {τ : x_S} (x6 : Int32) (A B : Nat) (hA : A < 2 ^ 29) (hB : B < 2 ^ 29) : ∀ k a b f, k ≤ 29 → a < 2 ^ 30 → b < 2 ^ k → 2 * k + 1 < f → 0 < Nat.gcd a b → Nat.gcd a b < 2 ^ 30 → x_fx (α := Int32 → Int32 → Option Int32) (fun _ _ => none) (fun K => fun x10 x11 => gX8_tremble_214 x6 (nI A) (nI B) K x10 x11 τ) f (nI a) (nI b) = some (if x6 = 0 then nI (A / Nat.gcd a b) else nI (B / Nat.gcd a b)) := by
  have st : ∀ (K : Int32 → Int32 → Option Int32) a b, a < 2 ^ 30 → b < 2 ^ 30 → 0 < b → gX8_tremble_214 x6 (nI A) (nI B) K (nI a) (nI b) τ = K (nI b) (nI (a % b)) := by
    intro K a b ha hb h0
    have h1 : ¬ nI b = 0 := nI_ne0 h0 (by omega)
    unfold gX8_tremble_214
    rw [if_neg h1, z_g h1, pk_rem (by omega) h0 (by omega)]
  have en : ∀ (K : Int32 → Int32 → Option Int32) a, 0 < a → a < 2 ^ 30 → gX8_tremble_214 x6 (nI A) (nI B) K (nI a) (nI 0) τ = some (if x6 = 0 then nI (A / a) else nI (B / a)) := by
    intro K a h0 ha
    have h1 : ¬ nI a = 0 := nI_ne0 h0 (by omega)
    unfold gX8_tremble_214
    rw [if_pos (show (nI 0 : Int32) = 0 from rfl), z_g h1, z_g h1, pk_div (by omega) h0 (by omega), pk_div (by omega) h0 (by omega)]
    split <;> rfl
  intro k
  induction k with
  | zero =>
    intro a b f hk ha hb hf h0 h1
    have e : b = 0 := by omega
    subst e
    rw [Nat.gcd_zero_right] at h0 h1 ⊢
    cases f with
    | zero => exact absurd hf (by omega)
    | succ f => exact en _ a h0 h1
  | succ k ih =>
    intro a b f hk ha hb hf h0 h1
    have hp := z_pow30 hk
    have hb30 : b < 2 ^ 30 := by omega
    cases f with
    | zero => exact absurd hf (by omega)
    | succ f =>
      rcases Nat.eq_zero_or_pos b with h | h
      · subst h
        rw [Nat.gcd_zero_right] at h0 h1 ⊢
        exact en _ a h0 h1
      · have hlt : a % b < b := Nat.mod_lt _ h
        refine (st _ a b ha hb30 h).trans ?_
        cases f with
        | zero => exact absurd hf (by omega)
        | succ f =>
          rcases Nat.eq_zero_or_pos (a % b) with h2 | h2
          · have e : Nat.gcd a b = b := by rw [← z_gcd1 a b, h2, Nat.gcd_zero_right]
            rw [h2, e]
            exact en _ b h hb30
          · refine (st _ b (a % b) hb30 (by omega) h2).trans ?_
            have e : Nat.gcd (a % b) (b % (a % b)) = Nat.gcd a b := by rw [z_gcd1, z_gcd1]
            refine (ih (a % b) (b % (a % b)) f (by omega) (by omega) (z_half3 h hb h2) (by omega) (by rw [e]; exact h0) (by rw [e]; exact h1)).trans ?_
            rw [e]
theorem z_tb (m k : Nat) : m.testBit k = decide (m / 2 ^ k % 2 = 1) := Nat.testBit_eq_decide_div_mod_eq
theorem z_inner {τ : x_S} {v : z_V} (hM : z_M τ 0 v) (hv : z_ok v) {g i L p m : Nat} (hg : g < v 2) (hL : i + L ≤ v 1) (hp : p ≤ 10) (hm : m < 128) (K73 : Int32 → Int32 → Int32 → Option Int32) (x x6 x8 x9 : Int32) : ∀ d k a c f, k + d = L → d < f → x_fx (α := Int32 → Int32 → Int32 → Option Int32) (fun _ _ _ => none) (fun K => fun x11 x12 x13 => gX8_tremble_91 K73 (nI g) (nI i) x (nI p) x6 (nI L) x8 x9 (nI m) K x11 x12 x13 τ) f (nI a) (nI c) (nI k) = if x < nI (c + z_ct (z_O v (v (19 + g)) (v (25 + g))) (z_O v (v (19 + g)) (v (25 + g) + 1)) m d k (i + k)) then K73 (x8 + 0) (x9 + nI (a * z_wt p m d k)) (nI (m + 1)) else K73 (x8 + nI (a * z_wt p m d k)) (x9 + nI (a * z_wt p m d k)) (nI (m + 1)) := by
  have h7 := hv.2.1
  have h6 := hv.2.2.1
  obtain ⟨hk, hi, -, -⟩ := hv.2.2.2.2.2.2 g hg
  obtain ⟨m1, m2, -⟩ := hM.2.2.2.2.2.2 g hg
  rw [Nat.zero_add] at m1 m2
  intro d
  induction d with
  | zero =>
    intro k a c f hkL hf
    cases f with
    | zero => exact absurd hf (by omega)
    | succ f =>
      show gX8_tremble_91 K73 (nI g) (nI i) x (nI p) x6 (nI L) x8 x9 (nI m) _ (nI a) (nI c) (nI k) τ = if x < nI (c + 0) then K73 (x8 + 0) (x9 + nI (a * 1)) (nI (m + 1)) else K73 (x8 + nI (a * 1)) (x9 + nI (a * 1)) (nI (m + 1))
      unfold gX8_tremble_91 bX8_tremble_190
      rw [if_pos (nI_le (by omega) (by omega)), Nat.add_zero, Nat.mul_one, nI_1]
  | succ d ih =>
    intro k a c f hkL hf
    cases f with
    | zero => exact absurd hf (by omega)
    | succ f =>
      have hs : i + k < v 1 := by omega
      have hb := z_bit m hm k (by omega)
      have hK : fX8_has (nI m) (nI k) τ = some (z_B (m.testBit k)) := by
        unfold fX8_has
        by_cases c : m.testBit k = true
        · rw [if_pos (hb.mpr c), c]; rfl
        · rw [if_neg (fun z => c (hb.mp z)), show m.testBit k = false by simpa using c]; rfl
      have cg1 : (nI (19 + g)).toNatClampNeg = 19 + g := z_cl (by omega)
      have cg2 : (nI (25 + g)).toNatClampNeg = 25 + g := z_cl (by omega)
      have u : ∀ K : Int32 → Int32 → Int32 → Option Int32, gX8_tremble_91 K73 (nI g) (nI i) x (nI p) x6 (nI L) x8 x9 (nI m) K (nI a) (nI c) (nI k) τ = K (nI (a * (if m / 2 ^ k % 2 = 1 then p else 10 - p))) (nI (c + (if m / 2 ^ k % 2 = 1 then z_O v (v (19 + g)) (v (25 + g) + 1) (i + k) else z_O v (v (19 + g)) (v (25 + g)) (i + k)))) (nI (k + 1)) := by
        intro K
        unfold gX8_tremble_91 bX8_tremble_124 bX8_tremble_158
        rw [if_neg (nI_ge (by omega) (by omega)), hK, z_p, z_tb]
        by_cases q : m / 2 ^ k % 2 = 1
        · rw [show z_B (decide (m / 2 ^ k % 2 = 1)) = 1 by simp [z_B, q], if_neg z_10, if_pos q, if_pos q, show (19 : Int32) + nI g = nI (19 + g) from nI_add 19 g, show (25 : Int32) + nI g = nI (25 + g) from nI_add 25 g, z_gi (n := 1372) (by omega) (by decide), z_gi (n := 1372) (by omega) (by decide), if_neg z_10, cg1, cg2, m1, m2, nI_1, nI_add, z_MO hM hv hs hk (by omega), z_p, pk_mul, nI_add, nI_1]
        · rw [show z_B (decide (m / 2 ^ k % 2 = 1)) = 0 by simp [z_B, q], if_pos rfl, if_neg q, if_neg q, show (19 : Int32) + nI g = nI (19 + g) from nI_add 19 g, show (25 : Int32) + nI g = nI (25 + g) from nI_add 25 g, z_gi (n := 1372) (by omega) (by decide), z_gi (n := 1372) (by omega) (by decide), if_pos rfl, cg1, cg2, m1, m2, show nI (v (25 + g)) + 0 = nI (v (25 + g)) from nI_add _ 0, nI_add, z_MO hM hv hs hk (by omega), z_p, show (10 : Int32) - nI p = nI (10 - p) from pk_sub (a := 10) hp, pk_mul, nI_add, nI_1]
      refine (u _).trans ((ih (k + 1) _ _ f (by omega) (by omega)).trans ?_)
      rw [Nat.mul_assoc, Nat.add_assoc]
      rfl
