/-! ===== pure: tell, the costs ===== -/
/-- what a gesture g costs in street s with t left, where nx is the cost from the next street on -/
def z_on (v : z_V) (m : Int32) (s : Nat) (nx : Nat → Nat) (t g : Nat) : Nat := if z_tl v m g s = true ∧ v (37 + g) ≤ t then z_D v g s + nx (t - v (37 + g)) else 1000000
def z_cs (v : z_V) (m : Int32) (s : Nat) (nx : Nat → Nat) (t g acc : Nat) : Nat := if z_on v m s nx t g < acc then z_on v m s nx t g else acc
/-- the least cost of the d streets before e, with t left -/
def z_cost (v : z_V) (m : Int32) (e : Nat) : Nat → Nat → Nat
  | 0, _ => 0
  | d + 1, t => z_fold (z_cs v m (e - (d + 1)) (z_cost v m e d) t) 0 (v 2) 1000000
theorem z_cs_le (v : z_V) (m : Int32) (s : Nat) (nx : Nat → Nat) (t : Nat) : ∀ d i a, a ≤ 1000000 → z_fold (z_cs v m s nx t) i d a ≤ 1000000 := by
  intro d
  induction d with
  | zero => intro i a h; exact h
  | succ d ih =>
    intro i a h
    refine ih (i + 1) _ ?_
    unfold z_cs
    split <;> omega
theorem z_cost_le (v : z_V) (m : Int32) (e d t : Nat) : z_cost v m e d t ≤ 1000000 := by
  cases d with
  | zero => exact Nat.zero_le _
  | succ d => exact z_cs_le v m _ _ t (v 2) 0 1000000 (Nat.le_refl _)
theorem z_onBy {τ : x_S} {v : z_V} (hM : z_M τ 0 v) (hv : z_ok v) (m : Int32) {g s t : Nat} {nx : Nat → Nat} (hg : g < v 2) (hs : s < v 1) (ht : t < 100) (hnx : ∀ t, t < 100 → τ 8 (100 * (s + 1) + t) = nI (nx t)) : fX8_onBy (nI g) m (nI s) (nI t) τ = some (nI (z_on v m s nx t g)) := by
  have h7 := hv.2.1
  have h6 := hv.2.2.1
  obtain ⟨-, -, -, e4, -⟩ := hM.2.2.2.2.2.2 g hg
  rw [Nat.zero_add] at e4
  obtain ⟨-, -, -, hk⟩ := hv.2.2.2.2.2.2 g hg
  have ec : (nI (37 + g)).toNatClampNeg = 37 + g := z_cl (by omega)
  have cc : (nI t < τ 1 (nI (37 + g)).toNatClampNeg) ↔ t < v (37 + g) := by rw [ec, e4]; exact nI_ltI (by omega) (by omega)
  unfold fX8_onBy bX8_onBy_28 bX8_onBy_29 z_on
  rw [z_Mtl hM hv m hg hs, z_p, show (37 : Int32) + nI g = nI (37 + g) from nI_add 37 g, z_gi (n := 1372) (by omega) (by decide)]
  by_cases q : z_tl v m g s = true
  · rw [if_neg (by rw [q]; decide)]
    by_cases c : v (37 + g) ≤ t
    · have ei : (100 : Int32) * (nI s + 1) + nI t - nI (v (37 + g)) = nI (100 * (s + 1) + (t - v (37 + g))) := by
        rw [nI_1, show (100 : Int32) = nI 100 from rfl, pk_mul, nI_add, pk_sub (by omega)]
        congr 1
        omega
      rw [if_neg (fun z => by have := cc.mp z; omega), if_neg z_10, z_MD hM hv hg hs, z_p, z_gi (n := 1372) (by omega) (by decide), ec, e4, ei, z_gi (n := 800) (by omega) (by decide), z_cl (by omega), hnx _ (by omega), nI_add, if_pos ⟨q, c⟩]
    · rw [if_pos (cc.mpr (by omega)), if_pos rfl, if_neg (fun z => c z.2)]
      rfl
  · rw [if_pos (z_B0.mpr (by simpa using q)), if_pos rfl, if_neg (fun z => q z.1)]
    rfl
