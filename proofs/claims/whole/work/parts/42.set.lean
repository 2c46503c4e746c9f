/-! ===== pure: one number of a city set ===== -/
def z_set (v : z_V) (K y : Nat) : z_V := fun k => if k = K then y else v k
theorem z_sete {v : z_V} {K y : Nat} : z_set v K y K = y := if_pos rfl
theorem z_setn {v : z_V} {K y k : Nat} (h : k ≠ K) : z_set v K y k = v k := if_neg h
theorem z_set_comm {v : z_V} {K L a b : Nat} (h : K ≠ L) : z_set (z_set v K a) L b = z_set (z_set v L b) K a := by
  funext k
  unfold z_set
  by_cases h1 : k = L
  · rw [if_pos h1, if_neg (by omega), if_pos h1]
  · rw [if_neg h1, if_neg h1]
theorem z_ok_set {v : z_V} (hv : z_ok v) {K y : Nat} (h0 : K ≠ 0) (h1 : K ≠ 1) (h2 : K ≠ 2) (h3 : K = 3 → y ≤ 99999) (h4 : K = 4 → y < 128) (h5 : ∀ s, s < 7 → K = 5 + s → y ≤ 30) (h6 : ∀ s, s < 7 → K ≠ 12 + s) (h7 : ∀ g, g < 6 → K ≠ 19 + g) (h8 : ∀ g, g < 6 → K = 25 + g → 1 ≤ y ∧ y ≤ 30) (h9 : ∀ g, g < 6 → K ≠ 31 + g) (h10 : ∀ g, g < 6 → K ≠ 37 + g) : z_ok (z_set v K y) := by
  obtain ⟨v0, v1, v2, v3, v4, vs, vg⟩ := hv
  refine ⟨by rw [z_setn (Ne.symm h0)]; exact v0, by rw [z_setn (Ne.symm h1)]; exact v1, by rw [z_setn (Ne.symm h2)]; exact v2, ?_, ?_, fun s hs => ?_, fun g hg => ?_⟩
  · by_cases e : 3 = K
    · subst e; rw [z_sete]; exact h3 rfl
    · rw [z_setn e]; exact v3
  · by_cases e : 4 = K
    · subst e; rw [z_sete]; exact h4 rfl
    · rw [z_setn e]; exact v4
  · rw [z_setn (Ne.symm h1)] at hs
    rw [z_setn (v := v) (k := 12 + s) (fun z => h6 s (by omega) z.symm)]
    refine ⟨?_, (vs s hs).2⟩
    by_cases e : 5 + s = K
    · subst e; rw [z_sete]; exact h5 s (by omega) rfl
    · rw [z_setn e]; exact (vs s hs).1
  · rw [z_setn (Ne.symm h2)] at hg
    obtain ⟨g1, g2, g3, g4⟩ := vg g hg
    rw [z_setn (v := v) (k := 19 + g) (fun z => h7 g (by omega) z.symm), z_setn (v := v) (k := 31 + g) (fun z => h9 g (by omega) z.symm), z_setn (v := v) (k := 37 + g) (fun z => h10 g (by omega) z.symm)]
    refine ⟨g1, ?_, g3, g4⟩
    by_cases e : 25 + g = K
    · subst e; rw [z_sete]; exact h8 g (by omega) rfl
    · rw [z_setn e]; exact g2
theorem z_M_set {τ : x_S} {v : z_V} (h : z_M τ 0 v) {K : Nat} (h1 : K ≠ 1) (h2 : K ≠ 2) (y : Nat) : z_M (x_u τ 1 K (nI y)) 0 (z_set v K y) := by
  have key : ∀ k, τ 1 k = nI (v k) → x_u τ 1 K (nI y) 1 k = nI (z_set v K y k) := by
    intro k hk
    by_cases e : k = K
    · subst e; rw [z_us, z_sete]
    · rw [z_ui e, z_setn e, hk]
  obtain ⟨a0, a1, a2, a3, a4, as, ag⟩ := h
  refine ⟨key _ a0, key _ a1, key _ a2, key _ a3, key _ a4, fun s hs => ?_, fun g hg => ?_⟩
  · rw [z_setn (Ne.symm h1)] at hs
    have := as s hs
    rw [Nat.zero_add, Nat.zero_add] at this ⊢
    exact ⟨key _ this.1, key _ this.2⟩
  · rw [z_setn (Ne.symm h2)] at hg
    have := ag g hg
    rw [Nat.zero_add, Nat.zero_add, Nat.zero_add, Nat.zero_add, Nat.zero_add] at this ⊢
    exact ⟨key _ this.1, key _ this.2.1, key _ this.2.2.1, key _ this.2.2.2.1, key _ this.2.2.2.2⟩
theorem z_S_paid {σ : x_S} {c : Nat} {v : z_V} (h : z_S σ c v) (hv1 : v 1 ≤ 7) (hv2 : v 2 ≤ 6) (y : Nat) : z_S (x_u σ c 2 (nI y)) c (z_set v (3) y) := by
  obtain ⟨a0, a1, a2, a3, a4, as, ag⟩ := h
  refine ⟨by rw [z_ui (by decide), z_setn (by decide)]; exact a0, by rw [z_ui (by decide), z_setn (by decide)]; exact a1, by rw [z_ui (by decide), z_setn (by decide)]; exact a2, by rw [z_us, z_sete], by rw [z_ui (by decide), z_setn (by decide)]; exact a4, fun t ht => ?_, fun t ht => ?_⟩
  · rw [z_setn (by omega)] at ht
    obtain ⟨b1, b2⟩ := as t ht
    refine ⟨?_, ?_⟩
    · rw [z_uk (by omega), z_setn (by omega)]; exact b1
    · rw [z_uk (by omega), z_setn (by omega)]; exact b2
  · rw [z_setn (by omega)] at ht
    obtain ⟨b1, b2, b3, b4, b5⟩ := ag t ht
    refine ⟨?_, ?_, ?_, ?_, ?_⟩
    · rw [z_uk (by omega), z_setn (by omega)]; exact b1
    · rw [z_uk (by omega), z_setn (by omega)]; exact b2
    · rw [z_uk (by omega), z_setn (by omega)]; exact b3
    · rw [z_uk (by omega), z_setn (by omega)]; exact b4
    · rw [z_uk (by omega), z_setn (by omega)]; exact b5
theorem z_S_known {σ : x_S} {c : Nat} {v : z_V} (h : z_S σ c v) (hv1 : v 1 ≤ 7) (hv2 : v 2 ≤ 6) (y : Nat) : z_S (x_u σ c 4 (nI y)) c (z_set v (4) y) := by
  obtain ⟨a0, a1, a2, a3, a4, as, ag⟩ := h
  refine ⟨by rw [z_ui (by decide), z_setn (by decide)]; exact a0, by rw [z_ui (by decide), z_setn (by decide)]; exact a1, by rw [z_ui (by decide), z_setn (by decide)]; exact a2, by rw [z_ui (by decide), z_setn (by decide)]; exact a3, by rw [z_us, z_sete], fun t ht => ?_, fun t ht => ?_⟩
  · rw [z_setn (by omega)] at ht
    obtain ⟨b1, b2⟩ := as t ht
    refine ⟨?_, ?_⟩
    · rw [z_uk (by omega), z_setn (by omega)]; exact b1
    · rw [z_uk (by omega), z_setn (by omega)]; exact b2
  · rw [z_setn (by omega)] at ht
    obtain ⟨b1, b2, b3, b4, b5⟩ := ag t ht
    refine ⟨?_, ?_, ?_, ?_, ?_⟩
    · rw [z_uk (by omega), z_setn (by omega)]; exact b1
    · rw [z_uk (by omega), z_setn (by omega)]; exact b2
    · rw [z_uk (by omega), z_setn (by omega)]; exact b3
    · rw [z_uk (by omega), z_setn (by omega)]; exact b4
    · rw [z_uk (by omega), z_setn (by omega)]; exact b5
theorem z_S_dim {σ : x_S} {c : Nat} {v : z_V} (h : z_S σ c v) (hv1 : v 1 ≤ 7) (hv2 : v 2 ≤ 6) {s : Nat} (hi : s < 7) (y : Nat) : z_S (x_u σ (c + 1) s (nI y)) c (z_set v (5 + s) y) := by
  obtain ⟨a0, a1, a2, a3, a4, as, ag⟩ := h
  refine ⟨by rw [z_uk (by omega), z_setn (by omega)]; exact a0, by rw [z_uk (by omega), z_setn (by omega)]; exact a1, by rw [z_uk (by omega), z_setn (by omega)]; exact a2, by rw [z_uk (by omega), z_setn (by omega)]; exact a3, by rw [z_uk (by omega), z_setn (by omega)]; exact a4, fun t ht => ?_, fun t ht => ?_⟩
  · rw [z_setn (by omega)] at ht
    obtain ⟨b1, b2⟩ := as t ht
    refine ⟨?_, ?_⟩
    · by_cases e : t = s
      · subst e; rw [z_us, z_sete]
      · rw [z_ui e, z_setn (by omega)]; exact b1
    · rw [z_uk (by omega), z_setn (by omega)]; exact b2
  · rw [z_setn (by omega)] at ht
    obtain ⟨b1, b2, b3, b4, b5⟩ := ag t ht
    refine ⟨?_, ?_, ?_, ?_, ?_⟩
    · rw [z_uk (by omega), z_setn (by omega)]; exact b1
    · rw [z_uk (by omega), z_setn (by omega)]; exact b2
    · rw [z_uk (by omega), z_setn (by omega)]; exact b3
    · rw [z_uk (by omega), z_setn (by omega)]; exact b4
    · rw [z_uk (by omega), z_setn (by omega)]; exact b5
theorem z_S_inch {σ : x_S} {c : Nat} {v : z_V} (h : z_S σ c v) (hv1 : v 1 ≤ 7) (hv2 : v 2 ≤ 6) {g : Nat} (hi : g < 6) (y : Nat) : z_S (x_u σ (c + 4) g (nI y)) c (z_set v (25 + g) y) := by
  obtain ⟨a0, a1, a2, a3, a4, as, ag⟩ := h
  refine ⟨by rw [z_uk (by omega), z_setn (by omega)]; exact a0, by rw [z_uk (by omega), z_setn (by omega)]; exact a1, by rw [z_uk (by omega), z_setn (by omega)]; exact a2, by rw [z_uk (by omega), z_setn (by omega)]; exact a3, by rw [z_uk (by omega), z_setn (by omega)]; exact a4, fun t ht => ?_, fun t ht => ?_⟩
  · rw [z_setn (by omega)] at ht
    obtain ⟨b1, b2⟩ := as t ht
    refine ⟨?_, ?_⟩
    · rw [z_uk (by omega), z_setn (by omega)]; exact b1
    · rw [z_uk (by omega), z_setn (by omega)]; exact b2
  · rw [z_setn (by omega)] at ht
    obtain ⟨b1, b2, b3, b4, b5⟩ := ag t ht
    refine ⟨?_, ?_, ?_, ?_, ?_⟩
    · rw [z_uk (by omega), z_setn (by omega)]; exact b1
    · by_cases e : t = g
      · subst e; rw [z_us, z_sete]
      · rw [z_ui e, z_setn (by omega)]; exact b2
    · rw [z_uk (by omega), z_setn (by omega)]; exact b3
    · rw [z_uk (by omega), z_setn (by omega)]; exact b4
    · rw [z_uk (by omega), z_setn (by omega)]; exact b5
theorem z_S_made {σ : x_S} {c : Nat} {v : z_V} (h : z_S σ c v) (hv1 : v 1 ≤ 7) (hv2 : v 2 ≤ 6) {g : Nat} (hi : g < 6) (y : Nat) : z_S (x_u σ (c + 7) g (nI y)) c (z_set v (43 + g) y) := by
  obtain ⟨a0, a1, a2, a3, a4, as, ag⟩ := h
  refine ⟨by rw [z_uk (by omega), z_setn (by omega)]; exact a0, by rw [z_uk (by omega), z_setn (by omega)]; exact a1, by rw [z_uk (by omega), z_setn (by omega)]; exact a2, by rw [z_uk (by omega), z_setn (by omega)]; exact a3, by rw [z_uk (by omega), z_setn (by omega)]; exact a4, fun t ht => ?_, fun t ht => ?_⟩
  · rw [z_setn (by omega)] at ht
    obtain ⟨b1, b2⟩ := as t ht
    refine ⟨?_, ?_⟩
    · rw [z_uk (by omega), z_setn (by omega)]; exact b1
    · rw [z_uk (by omega), z_setn (by omega)]; exact b2
  · rw [z_setn (by omega)] at ht
    obtain ⟨b1, b2, b3, b4, b5⟩ := ag t ht
    refine ⟨?_, ?_, ?_, ?_, ?_⟩
    · rw [z_uk (by omega), z_setn (by omega)]; exact b1
    · rw [z_uk (by omega), z_setn (by omega)]; exact b2
    · rw [z_uk (by omega), z_setn (by omega)]; exact b3
    · rw [z_uk (by omega), z_setn (by omega)]; exact b4
    · by_cases e : t = g
      · subst e; rw [z_us, z_sete]
      · rw [z_ui e, z_setn (by omega)]; exact b5
theorem z_W4 {x : Int32} {m n : Nat} (hm : m < 65536) (hn : n < 2 ^ 31) (h : ¬ z_W x (nI m) (nI n) = 0) : ∃ j, m ≤ j ∧ j ≤ n ∧ x = nI j := by
  obtain ⟨h1, h2⟩ := z_W1 h
  have h0 : ¬ x < 0 := fun z => h1 (Int32.lt_of_lt_of_le z (Int32.not_lt.mp (nI_pos (by omega))))
  obtain ⟨j, hj, rfl⟩ := nI_of h0
  exact ⟨j, Nat.not_lt.mp (fun q => h1 ((nI_ltI hj (by omega)).mpr q)), Nat.not_lt.mp (fun q => h2 ((nI_ltI hn hj).mpr q)), rfl⟩
theorem z_xor : ∀ k, k < 128 → ∀ s, s < 7 → nI k ^^^ (1 <<< (nI s &&& 31)) = nI (k ^^^ (1 <<< s)) ∧ k ^^^ (1 <<< s) < 128 ∧ (k ^^^ (1 <<< s)) ^^^ (1 <<< s) = k := by decide +kernel
theorem z_undo0 {v : z_V} {w x : Nat} : z_undo 0 w x v = z_set (z_set v 3 (v 3 - x)) (43 + w) (v (43 + w) - 1) := by
  funext k
  unfold z_undo z_set
  by_cases h1 : k = 43 + w
  · subst h1; simp
  · by_cases h2 : k = 3
    · subst h2; simp [h1]
    · simp [h1, h2]
theorem z_undo1 {v : z_V} {w x : Nat} : z_undo 1 w x v = z_set v (5 + w) x := by
  funext k
  unfold z_undo z_set
  simp
theorem z_undo2 {v : z_V} {w x : Nat} : z_undo 2 w x v = z_set v (25 + w) (v (25 + w) + x) := by
  funext k
  unfold z_undo z_set
  by_cases h1 : k = 25 + w
  · subst h1; simp
  · simp [h1]
theorem z_undo3 {v : z_V} {w x : Nat} : z_undo 3 w x v = z_set v 4 (v 4 ^^^ (1 <<< w)) := by
  funext k
  unfold z_undo z_set
  by_cases h1 : k = 4
  · subst h1; simp
  · simp [h1]
theorem z_set2 {v : z_V} {K a : Nat} (b : Nat) (h : b = v K) : z_set (z_set v K a) K b = v := by
  funext k
  unfold z_set
  by_cases h1 : k = K
  · subst h1; rw [if_pos rfl, h]
  · rw [if_neg h1, if_neg h1]
