/-! ===== pure: a city as 49 numbers v: 0 rate, 1 streets, 2 gestures, 3 paid, 4 known, 5 .. dim, 12 .. strict, 19 .. kind, 25 .. inches, 31 .. means, 37 .. takes, 43 .. made ===== -/
abbrev z_V : Type := Nat → Nat
/-- the system's City at cell c is v -/
def z_S (σ : x_S) (c : Nat) (v : z_V) : Prop :=
  σ c 1 = nI (v 0) ∧ σ c 3 = nI (v 1) ∧ σ c 5 = nI (v 2) ∧ σ c 2 = nI (v 3) ∧ σ c 4 = nI (v 4) ∧
  (∀ s, s < v 1 → σ (c + 1) s = nI (v (5 + s)) ∧ σ (c + 2) s = nI (v (12 + s))) ∧
  (∀ g, g < v 2 → σ (c + 3) g = nI (v (19 + g)) ∧ σ (c + 4) g = nI (v (25 + g)) ∧ σ (c + 5) g = nI (v (31 + g)) ∧ σ (c + 6) g = nI (v (37 + g)) ∧ σ (c + 7) g = nI (v (43 + g)))
/-- the reference's town at place b of its row is v -/
def z_M (τ : x_S) (b : Nat) (v : z_V) : Prop :=
  τ 1 b = nI (v 0) ∧ τ 1 (b + 1) = nI (v 1) ∧ τ 1 (b + 2) = nI (v 2) ∧ τ 1 (b + 3) = nI (v 3) ∧ τ 1 (b + 4) = nI (v 4) ∧
  (∀ s, s < v 1 → τ 1 (b + (5 + s)) = nI (v (5 + s)) ∧ τ 1 (b + (12 + s)) = nI (v (12 + s))) ∧
  (∀ g, g < v 2 → τ 1 (b + (19 + g)) = nI (v (19 + g)) ∧ τ 1 (b + (25 + g)) = nI (v (25 + g)) ∧ τ 1 (b + (31 + g)) = nI (v (31 + g)) ∧ τ 1 (b + (37 + g)) = nI (v (37 + g)) ∧ τ 1 (b + (43 + g)) = nI (v (43 + g)))
/-- numbers as told -/
def z_ok (v : z_V) : Prop :=
  v 0 ≤ 9 ∧ v 1 ≤ 7 ∧ v 2 ≤ 6 ∧ v 3 ≤ 99999 ∧ v 4 < 128 ∧
  (∀ s, s < v 1 → v (5 + s) ≤ 30 ∧ v (12 + s) ≤ 9) ∧
  (∀ g, g < v 2 → (1 ≤ v (19 + g) ∧ v (19 + g) ≤ 5) ∧ (1 ≤ v (25 + g) ∧ v (25 + g) ≤ 30) ∧ v (31 + g) ≤ 3 ∧ (1 ≤ v (37 + g) ∧ v (37 + g) ≤ 9))
/-- DUTY where nobody is known, of a kind, of a length -/
def z_U (v : z_V) (kd inc s : Nat) : Nat :=
  if kd = 1 then inc * v 0 + inc * v (12 + s) / 10 else if kd = 2 then (inc * v 0 + inc * v (12 + s) / 10) / 2 else if kd = 3 then (inc * v 0 + inc * v (12 + s) / 10) + v 0 * (inc - 10)
  else if kd = 4 then 1 else if v (12 + s) < 5 then 1 else inc * v 0 + inc * v (12 + s) / 10
def z_O (v : z_V) (kd inc s : Nat) : Nat := if (v 4).testBit s then z_U v kd inc s / 2 else z_U v kd inc s
theorem z_wave_le {v : z_V} {inc s : Nat} (h0 : v 0 ≤ 9) (hi : inc ≤ 31) (hs : v (12 + s) ≤ 9) : inc * v 0 ≤ 279 ∧ inc * v (12 + s) ≤ 279 := ⟨Nat.le_trans (Nat.mul_le_mul hi h0) (by decide), Nat.le_trans (Nat.mul_le_mul hi hs) (by decide)⟩
theorem z_U_le {v : z_V} {kd inc s : Nat} (h0 : v 0 ≤ 9) (hi : inc ≤ 31) (hs : v (12 + s) ≤ 9) : z_U v kd inc s ≤ 600 := by
  have ⟨h1, h2⟩ := z_wave_le h0 hi hs
  have h3 : v 0 * (inc - 10) ≤ 9 * 21 := Nat.mul_le_mul h0 (by omega)
  unfold z_U
  split
  · omega
  · split
    · omega
    · split
      · omega
      · split
        · omega
        · split <;> omega
theorem z_O_le {v : z_V} {kd inc s : Nat} (h0 : v 0 ≤ 9) (hi : inc ≤ 31) (hs : v (12 + s) ≤ 9) : z_O v kd inc s ≤ 600 := by
  have h := z_U_le (kd := kd) h0 hi hs
  unfold z_O
  split
  · omega
  · exact h
theorem z_bit : ∀ k, k < 128 → ∀ s, s < 7 → ((((nI k) >>> (nI s &&& 31)) &&& 1 = 1) ↔ k.testBit s = true) := by decide +kernel
theorem z_w10 {a b : Nat} (ha : a ≤ 31) (hb : b ≤ 9) : (nI a * nI b) / 10 = nI (a * b / 10) := by
  have h : a * b ≤ 279 := Nat.le_trans (Nat.mul_le_mul ha hb) (by decide)
  rw [pk_mul]
  exact pk_div (d := 10) (by omega) (by decide) (by decide)
theorem z_half {a : Nat} (ha : a < 100000) : nI a / 2 = nI (a / 2) := pk_div (d := 2) (by omega) (by decide) (by decide)
theorem z_eqI {a : Nat} (k : Nat) (ha : a < 65536) (hk : k < 65536) : (nI a = nI k) ↔ a = k := nI_eq (by omega) (by omega)
theorem z_ltI {a k : Nat} (ha : a < 2 ^ 30) (hk : k < 2 ^ 30) : (nI a < nI k) ↔ a < k := nI_ltI (by omega) (by omega)
theorem z_leI {a k : Nat} (ha : a < 2 ^ 30) (hk : k < 2 ^ 30) : (nI a ≤ nI k) ↔ a ≤ k := nI_leI (by omega) (by omega)
/-- the system: DUTY -/
theorem z_SU {σ : x_S} {c : Nat} {v : z_V} (hS : z_S σ c v) (hv : z_ok v) {kd inc s : Nat} (hs : s < v 1) (hk : 1 ≤ kd ∧ kd ≤ 5) (hi : inc ≤ 31) : fX2_owesUnknown c (nI kd) (nI inc) (nI s) σ = some (nI (z_U v kd inc s)) := by
  obtain ⟨h0, -, -, -, -, hst, -⟩ := hS
  obtain ⟨v0, v1, -, -, -, vs, -⟩ := hv
  have hs7 : s < 7 := by omega
  have hst2 := (vs s hs).2
  have ⟨w1, w2⟩ := z_wave_le (inc := inc) v0 hi hst2
  have ew : nI inc * nI (v 0) + nI inc * nI (v (12 + s)) / 10 = nI (inc * v 0 + inc * v (12 + s) / 10) := by rw [z_w10 hi hst2, pk_mul, nI_add]
  unfold fX2_owesUnknown
  rw [z_gi hs7 (by decide), z_gi hs7 (by decide), z_cl (by omega), h0, (hst s hs).2, ew]
  rcases (show kd = 1 ∨ kd = 2 ∨ kd = 3 ∨ kd = 4 ∨ kd = 5 by omega) with rfl | rfl | rfl | rfl | rfl
  · rw [if_pos (by decide)]; rfl
  · rw [if_neg (by decide), if_pos (by decide), z_half (by omega)]; rfl
  · rw [if_neg (by decide), if_neg (by decide), if_pos (by decide)]
    have e : (if 0 < nI inc - 10 then nI inc - 10 else 0) = nI (inc - 10) := by
      rcases Nat.lt_or_ge 10 inc with q | q
      · have e1 : nI inc - 10 = nI (inc - 10) := pk_sub (a := inc) (b := 10) (by omega)
        rw [e1, if_pos ((z_gtL (y := (0 : Int32)) 0 rfl (by omega) (by decide)).mpr (by omega))]
      · have e1 : ¬ (0 < nI inc - 10) := by
          rcases Nat.lt_or_ge inc 10 with q2 | q2
          · have := pk_sneg (a := inc) (b := 10) (by decide) q2
            exact Int32.not_lt.mpr (Int32.le_of_lt this)
          · have : inc = 10 := by omega
            subst this
            decide
        rw [if_neg e1, show inc - 10 = 0 by omega]
        rfl
    rw [e, pk_mul, nI_add]
    rfl
  · rw [if_neg (by decide), if_neg (by decide), if_neg (by decide), if_pos (by decide)]; rfl
  · rw [if_neg (by decide), if_neg (by decide), if_neg (by decide), if_neg (by decide), if_pos (by decide)]
    by_cases q : v (12 + s) < 5
    · rw [if_pos ((z_ltL (y := (5 : Int32)) 5 rfl (by omega) (by decide)).mpr q)]
      simp only [z_U, q, if_true]
      rfl
    · rw [if_neg (fun z => q ((z_ltL (y := (5 : Int32)) 5 rfl (by omega) (by decide)).mp z))]
      simp [z_U, q]
theorem z_c0 : (0 : Int32).toNatClampNeg = 0 := rfl
theorem z_c1 : (1 : Int32).toNatClampNeg = 1 := rfl
theorem z_c2 : (2 : Int32).toNatClampNeg = 2 := rfl
theorem z_c3 : (3 : Int32).toNatClampNeg = 3 := rfl
theorem z_c4 : (4 : Int32).toNatClampNeg = 4 := rfl
/-- the reference's place k + i of its row -/
theorem z_pl (k i : Nat) : (OfNat.ofNat k : Int32) + nI i = nI (k + i) := nI_add k i
/-- the reference: DUTY -/
theorem z_Mwave {τ : x_S} {v : z_V} (hM : z_M τ 0 v) (hv : z_ok v) {inc s : Nat} (hs : s < v 1) (hi : inc ≤ 31) : fX8_wave (nI inc) (nI s) τ = some (nI (inc * v 0 + inc * v (12 + s) / 10)) := by
  obtain ⟨h0, -, -, -, -, hst, -⟩ := hM
  obtain ⟨v0, v1, -, -, -, vs, -⟩ := hv
  have hst2 := (vs s hs).2
  have h12 : τ 1 (12 + s) = nI (v (12 + s)) := by have := (hst s hs).2; rwa [Nat.zero_add] at this
  unfold fX8_wave
  rw [show (12 : Int32) + nI s = nI (12 + s) from nI_add 12 s, z_gi (n := 1372) (by omega) (by decide), z_cl (by omega), z_c0, h0, h12, z_w10 hi hst2, pk_mul, nI_add]
theorem z_MU {τ : x_S} {v : z_V} (hM : z_M τ 0 v) (hv : z_ok v) {kd inc s : Nat} (hs : s < v 1) (hk : 1 ≤ kd ∧ kd ≤ 5) (hi : inc ≤ 31) : fX8_plainDuty (nI kd) (nI inc) (nI s) τ = some (nI (z_U v kd inc s)) := by
  have hw := z_Mwave hM hv hs hi
  obtain ⟨h0, -, -, -, -, hst, -⟩ := hM
  obtain ⟨v0, v1, -, -, -, vs, -⟩ := hv
  have hst2 := (vs s hs).2
  have h12 : τ 1 (12 + s) = nI (v (12 + s)) := by have := (hst s hs).2; rwa [Nat.zero_add] at this
  have ⟨w1, w2⟩ := z_wave_le (inc := inc) v0 hi hst2
  unfold fX8_plainDuty
  rcases (show kd = 1 ∨ kd = 2 ∨ kd = 3 ∨ kd = 4 ∨ kd = 5 by omega) with rfl | rfl | rfl | rfl | rfl
  · rw [if_neg (by decide), if_neg (by decide), if_neg (by decide), if_neg (by decide), hw]; rfl
  · rw [if_pos (by decide), hw, z_p, z_half (by omega)]; rfl
  · rw [if_neg (by decide), if_pos (by decide), hw, z_p]
    rcases Nat.lt_or_ge 10 inc with q | q
    · rw [if_neg (fun z => by have := (nI_leI (a := inc) (b := 10) (by omega) (by decide)).mp z; omega), z_c0, h0]
      have e1 : nI inc - 10 = nI (inc - 10) := pk_sub (a := inc) (b := 10) (by omega)
      rw [e1, pk_mul, nI_add]
      rfl
    · rw [if_pos ((z_leL (a := inc) (y := (10 : Int32)) 10 rfl (by omega) (by decide)).mpr q)]
      have e : z_U v 3 inc s = inc * v 0 + inc * v (12 + s) / 10 + 0 := by
        show (inc * v 0 + inc * v (12 + s) / 10) + v 0 * (inc - 10) = _
        rw [show inc - 10 = 0 by omega, Nat.mul_zero]
      rw [e]
      exact congrArg some (nI_add _ 0)
  · rw [if_neg (by decide), if_neg (by decide), if_pos (by decide)]; rfl
  · rw [if_neg (by decide), if_neg (by decide), if_neg (by decide), if_pos (by decide), show (12 : Int32) + nI s = nI (12 + s) from nI_add 12 s, z_gi (n := 1372) (by omega) (by decide), z_cl (by omega), h12]
    by_cases q : v (12 + s) < 5
    · rw [if_neg (fun z => by have := (nI_leI (a := 5) (b := v (12 + s)) (by decide) (by omega)).mp z; omega)]
      simp only [z_U, q, if_true]
      rfl
    · rw [if_pos ((z_geL (a := v (12 + s)) (y := (5 : Int32)) 5 rfl (by omega) (by decide)).mpr (by omega)), hw]
      simp [z_U, q, x_p]
/-- where one is known -/
theorem z_SO {σ : x_S} {c : Nat} {v : z_V} (hS : z_S σ c v) (hv : z_ok v) {kd inc s : Nat} (hs : s < v 1) (hk : 1 ≤ kd ∧ kd ≤ 5) (hi : inc ≤ 31) : fX2_owesSuch c (nI kd) (nI inc) (nI s) σ = some (nI (z_O v kd inc s)) := by
  have h1 := z_SU hS hv hs hk hi
  have hle := z_U_le (kd := kd) (s := s) hv.1 hi (hv.2.2.2.2.2.1 s hs).2
  have hb := z_bit (v 4) hv.2.2.2.2.1 s (by have := hv.2.1; omega)
  unfold fX2_owesSuch fX2_isKnown
  rw [h1, z_p, hS.2.2.2.2.1]
  by_cases q : (v 4).testBit s = true
  · rw [if_pos (hb.mpr q), z_p, if_neg (by decide), z_half (by omega)]
    simp [z_O, q]
  · rw [if_neg (fun z => q (hb.mp z)), z_p, if_pos rfl]
    simp [z_O, q]
theorem z_MO {τ : x_S} {v : z_V} (hM : z_M τ 0 v) (hv : z_ok v) {kd inc s : Nat} (hs : s < v 1) (hk : 1 ≤ kd ∧ kd ≤ 5) (hi : inc ≤ 31) : fX8_owes (nI kd) (nI inc) (nI s) τ = some (nI (z_O v kd inc s)) := by
  have h1 := z_MU hM hv hs hk hi
  have hle := z_U_le (kd := kd) (s := s) hv.1 hi (hv.2.2.2.2.2.1 s hs).2
  have hb := z_bit (v 4) hv.2.2.2.2.1 s (by have := hv.2.1; omega)
  unfold fX8_owes fX8_has
  rw [h1, z_p, z_c4, show τ 1 4 = nI (v 4) from hM.2.2.2.2.1]
  by_cases q : (v 4).testBit s = true
  · rw [if_pos (hb.mpr q), z_p, if_neg (by decide), z_half (by omega)]
    simp [z_O, q]
  · rw [if_neg (fun z => q (hb.mp z)), z_p, if_pos rfl]
    simp [z_O, q]
/-- of a gesture of the city -/
def z_D (v : z_V) (g s : Nat) : Nat := z_O v (v (19 + g)) (v (25 + g)) s
theorem z_SD {σ : x_S} {c : Nat} {v : z_V} (hS : z_S σ c v) (hv : z_ok v) {g s : Nat} (hg : g < v 2) (hs : s < v 1) : fX2_owes c (nI g) (nI s) σ = some (nI (z_D v g s)) := by
  obtain ⟨hk, hi, -, -⟩ := hv.2.2.2.2.2.2 g hg
  have h2 := hv.2.2.1
  obtain ⟨e1, e2, -⟩ := hS.2.2.2.2.2.2 g hg
  have h := z_SO hS hv hs hk (inc := v (25 + g)) (by omega)
  unfold fX2_owes
  rw [z_gi (n := 6) (by omega) (by decide), z_gi (n := 6) (by omega) (by decide), z_cl (by omega), e1, e2, h]
  rfl
theorem z_MD {τ : x_S} {v : z_V} (hM : z_M τ 0 v) (hv : z_ok v) {g s : Nat} (hg : g < v 2) (hs : s < v 1) : fX8_dutyOf (nI g) (nI s) τ = some (nI (z_D v g s)) := by
  obtain ⟨hk, hi, -, -⟩ := hv.2.2.2.2.2.2 g hg
  have h2 := hv.2.2.1
  obtain ⟨e1, e2, -⟩ := hM.2.2.2.2.2.2 g hg
  rw [Nat.zero_add] at e1 e2
  have h := z_MO hM hv hs hk (inc := v (25 + g)) (by omega)
  unfold fX8_dutyOf
  rw [show (19 : Int32) + nI g = nI (19 + g) from nI_add 19 g, show (25 : Int32) + nI g = nI (25 + g) from nI_add 25 g, z_gi (n := 1372) (by omega) (by decide), z_gi (n := 1372) (by omega) (by decide), z_cl (by omega), z_cl (by omega), e1, e2, h]
  rfl
/-- SEEN -/
def z_seen (v : z_V) (g s : Nat) : Bool := decide (v (5 + s) ≤ v (25 + g) + (if 4 ≤ v (19 + g) then 5 else 0))
def z_B (x : Bool) : Int32 := if x then 1 else 0
theorem z_Sseen {σ : x_S} {c : Nat} {v : z_V} (hS : z_S σ c v) (hv : z_ok v) {g s : Nat} (hg : g < v 2) (hs : s < v 1) : fX2_isSeen c (nI g) (nI s) σ = some (z_B (z_seen v g s)) := by
  obtain ⟨hk, hi, -, -⟩ := hv.2.2.2.2.2.2 g hg
  have h2 := hv.2.2.1
  have h1 := hv.2.1
  have hd := (hv.2.2.2.2.2.1 s hs).1
  obtain ⟨e1, e2, -⟩ := hS.2.2.2.2.2.2 g hg
  obtain ⟨d1, -⟩ := hS.2.2.2.2.2.1 s hs
  have fin : ∀ z : Nat, z ≤ 5 → bX2_isSeen_41 c (nI s) (nI z) (nI (v (25 + g))) σ = some (z_B (decide (v (5 + s) ≤ v (25 + g) + z))) := by
    intro z hz
    unfold bX2_isSeen_41
    rw [z_gi (n := 7) (by omega) (by decide), z_cl (by omega), d1, nI_add]
    by_cases q : v (25 + g) + z < v (5 + s)
    · rw [if_pos ((nI_ltI (by omega) (by omega)).mpr q)]
      simp [z_B, show ¬ v (5 + s) ≤ v (25 + g) + z by omega]
    · rw [if_neg (fun w => q ((nI_ltI (by omega) (by omega)).mp w))]
      simp [z_B, show v (5 + s) ≤ v (25 + g) + z by omega]
  have b25 : ∀ y : Int32, bX2_isSeen_25 c (nI g) (nI s) y σ = if y = 0 then bX2_isSeen_41 c (nI s) (nI 0) (nI (v (25 + g))) σ else bX2_isSeen_41 c (nI s) (nI 5) (nI (v (25 + g))) σ := by
    intro y
    unfold bX2_isSeen_25
    rw [z_gi (n := 6) (by omega) (by decide), z_cl (by omega), e2]
    rfl
  unfold fX2_isSeen z_seen
  rw [z_gi (n := 6) (by omega) (by decide), z_gi (n := 6) (by omega) (by decide), z_cl (by omega), e1, b25, b25]
  by_cases q4 : v (19 + g) = 4
  · rw [if_pos (by rw [q4]; rfl), if_neg (by decide), fin 5 (by decide), if_pos (by omega)]
  · rw [if_neg (fun w => q4 ((z_eqL (y := (4 : Int32)) 4 rfl (by omega) (by decide)).mp w))]
    by_cases q5 : v (19 + g) = 5
    · rw [if_pos (by rw [q5]; rfl), if_neg (by decide), fin 5 (by decide), if_pos (by omega)]
    · rw [if_neg (fun w => q5 ((z_eqL (y := (5 : Int32)) 5 rfl (by omega) (by decide)).mp w)), if_pos rfl, fin 0 (by decide), if_neg (by omega)]
theorem z_Mseen {τ : x_S} {v : z_V} (hM : z_M τ 0 v) (hv : z_ok v) {g s : Nat} (hg : g < v 2) (hs : s < v 1) : fX8_isSeen (nI g) (nI s) τ = some (z_B (z_seen v g s)) := by
  obtain ⟨hk, hi, -, -⟩ := hv.2.2.2.2.2.2 g hg
  have h2 := hv.2.2.1
  have h1 := hv.2.1
  have hd := (hv.2.2.2.2.2.1 s hs).1
  obtain ⟨e1, e2, -⟩ := hM.2.2.2.2.2.2 g hg
  obtain ⟨d1, -⟩ := hM.2.2.2.2.2.1 s hs
  rw [Nat.zero_add] at e1 e2 d1
  have fin : ∀ z : Nat, z ≤ 5 → bX8_isSeen_18 (nI g) (nI s) (nI z) τ = some (z_B (decide (v (5 + s) ≤ v (25 + g) + z))) := by
    intro z hz
    unfold bX8_isSeen_18
    rw [show (25 : Int32) + nI g = nI (25 + g) from nI_add 25 g, show (5 : Int32) + nI s = nI (5 + s) from nI_add 5 s, z_gi (n := 1372) (by omega) (by decide), z_gi (n := 1372) (by omega) (by decide), z_cl (by omega), z_cl (by omega), e2, d1, nI_add]
    by_cases q : v (25 + g) + z < v (5 + s)
    · rw [if_pos ((nI_ltI (by omega) (by omega)).mpr q)]
      simp [z_B, show ¬ v (5 + s) ≤ v (25 + g) + z by omega]
    · rw [if_neg (fun w => q ((nI_ltI (by omega) (by omega)).mp w))]
      simp [z_B, show v (5 + s) ≤ v (25 + g) + z by omega]
  unfold fX8_isSeen z_seen
  rw [show (19 : Int32) + nI g = nI (19 + g) from nI_add 19 g, z_gi (n := 1372) (by omega) (by decide), z_cl (by omega), e1]
  by_cases q : v (19 + g) ≤ 3
  · rw [if_pos ((z_leL (y := (3 : Int32)) 3 rfl (by omega) (by decide)).mpr q), if_neg (by omega)]
    exact fin 0 (by decide)
  · rw [if_neg (fun w => q ((z_leL (y := (3 : Int32)) 3 rfl (by omega) (by decide)).mp w)), if_pos (by omega)]
    exact fin 5 (by decide)
/-- is it a gesture, a street -/
theorem z_W_n (a : Int32) {n : Nat} (hn : n < 65536) : (z_W a 0 (nI n - 1) = 0 ∧ (a < 0 ∨ nI n ≤ a)) ∨ ∃ g, g < n ∧ a = nI g ∧ z_W a 0 (nI n - 1) = 1 := by
  rcases pk_ix a (n := n) (by omega) with h | h | ⟨g, hg, rfl⟩
  · refine Or.inl ⟨?_, Or.inl h⟩
    unfold z_W
    rw [if_pos h]
  · refine Or.inl ⟨?_, Or.inr h⟩
    unfold z_W
    by_cases q : a < 0
    · rw [if_pos q]
    · rw [if_neg q]
      obtain ⟨j, hj, rfl⟩ := nI_of q
      have hnj : n ≤ j := (nI_leI (by omega) hj).mp h
      cases n with
      | zero =>
        rw [if_pos]
        have : nI 0 - 1 < 0 := by decide
        exact Int32.lt_of_lt_of_le this (nI_pos' hj)
      | succ k =>
        rw [nI_pred, if_pos (nI_lt (by omega) hj)]
  · refine Or.inr ⟨g, hg, rfl, ?_⟩
    cases n with
    | zero => exact absurd hg (by omega)
    | succ k =>
      unfold z_W
      rw [nI_pred, if_neg (nI_pos (by omega)), if_neg (nI_nlt (by omega) (by omega))]
theorem z_is (a : Int32) {n : Nat} (hn : n < 65536) : ((if a < 0 then some (0 : Int32) else if nI n ≤ a then some 0 else some 1) = some 0 ∧ z_W a 0 (nI n - 1) = 0) ∨ ∃ g, g < n ∧ a = nI g ∧ (if a < 0 then some (0 : Int32) else if nI n ≤ a then some 0 else some 1) = some 1 ∧ z_W a 0 (nI n - 1) = 1 := by
  rcases z_W_n a hn with ⟨h, h2⟩ | ⟨g, hg, rfl, h⟩
  · refine Or.inl ⟨?_, h⟩
    by_cases q : a < 0
    · rw [if_pos q]
    · rw [if_neg q, if_pos (h2.resolve_left q)]
  · refine Or.inr ⟨g, hg, rfl, ?_, h⟩
    rw [if_neg (nI_pos (by omega)), if_neg (nI_ge hg (by omega))]
theorem z_ges {σ τ : x_S} {n : Nat} (hS : σ 32 5 = nI n) (hM : τ 1 2 = nI n) (hn : n < 65536) (a : Int32) : (fX7_isGesture a σ = some 0 ∧ fX8_isGesture a τ = some 0) ∨ ∃ g, g < n ∧ a = nI g ∧ fX7_isGesture a σ = some 1 ∧ fX8_isGesture a τ = some 1 := by
  unfold fX7_isGesture fX8_isGesture
  rw [z_c2, hS, hM, show (0 : Int64) = (0 : Int32).toInt64 from rfl, z_in64, z_p, z_g (z_Wand _ _ _)]
  rcases z_is a hn with ⟨h1, h2⟩ | ⟨g, hg, e, h1, h2⟩
  · exact Or.inl ⟨h1, by rw [h2]⟩
  · exact Or.inr ⟨g, hg, e, h1, by rw [h2]⟩
theorem z_str {σ τ : x_S} {n : Nat} (hS : σ 32 3 = nI n) (hM : τ 1 1 = nI n) (hn : n < 65536) (a : Int32) : (fX7_isStreet a σ = some 0 ∧ fX8_isStreet a τ = some 0) ∨ ∃ g, g < n ∧ a = nI g ∧ fX7_isStreet a σ = some 1 ∧ fX8_isStreet a τ = some 1 := by
  unfold fX7_isStreet fX8_isStreet
  rw [z_c1, hS, hM, show (0 : Int64) = (0 : Int32).toInt64 from rfl, z_in64, z_p, z_g (z_Wand _ _ _)]
  rcases z_is a hn with ⟨h1, h2⟩ | ⟨g, hg, e, h1, h2⟩
  · exact Or.inl ⟨h1, by rw [h2]⟩
  · exact Or.inr ⟨g, hg, e, h1, by rw [h2]⟩
