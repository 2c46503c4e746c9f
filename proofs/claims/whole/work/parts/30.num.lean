/-! ===== pure: numbers and partial functions ===== -/
theorem z_p {β : Type} (r : Int32) (k : Int32 → Option β) : x_p (some r) k = k r := rfl
theorem z_b {β : Type} (r : Int32) (u : x_S) (k : Int32 → x_S → Option β) : x_b (some (r, u)) k = k r u := rfl
theorem z_v {β : Type} (u : x_S) (k : x_S → Option β) : x_v (some u) k = k u := rfl
theorem z_w {β : Type} (u : x_S) (k : x_S → Option β) : x_w u k = k u := rfl
theorem z_g {β : Type} {c : Prop} [Decidable c] (h : c) (x : Option β) : x_g c x = x := if_pos h
theorem z_in {j n : Nat} (h : j < n) (hn : n ≤ 4096) : x_in (nI j) n := vp_in_nI h (by omega)
theorem z_gi {β : Type} {j n : Nat} (h : j < n) (hn : n ≤ 4096) (x : Option β) : x_g (x_in (nI j) n) x = x := z_g (z_in h hn) x
theorem z_cl {j : Nat} (h : j < 65536) : (nI j).toNatClampNeg = j := nI_clamp (by omega)
theorem z_u (σ : x_S) (k i : Nat) (v : Int32) (a : Nat) : x_u σ k i v a = if a = k then upd (σ k) i v else σ a := rfl
theorem z_r (σ : x_S) (k : Nat) (f : Nat → Int32) (a : Nat) : x_r σ k f a = if a = k then f else σ a := rfl
theorem z_upd (f : Nat → Int32) (i : Nat) (v : Int32) (j : Nat) : upd f i v j = if j = i then v else f j := by
  by_cases h : j = i
  · subst h; rw [pk_us, if_pos rfl]
  · rw [pk_un h, if_neg h]
theorem z_us (σ : x_S) (k i : Nat) (v : Int32) : x_u σ k i v k i = v := by rw [z_u, if_pos rfl, pk_us]
theorem z_uk {σ : x_S} {k i a : Nat} {v : Int32} (h : a ≠ k) : x_u σ k i v a = σ a := by rw [z_u, if_neg h]
theorem z_ui {σ : x_S} {k i j : Nat} {v : Int32} (h : j ≠ i) : x_u σ k i v k j = σ k j := by rw [z_u, if_pos rfl, pk_un h]
/-- within bounds, as 1 or 0 -/
def z_W (x lo hi : Int32) : Int32 := if x < lo then 0 else if hi < x then 0 else 1
theorem z_isWithin (x lo hi : Int32) (σ : x_S) : fX7_isWithin x lo hi σ = some (z_W x lo hi) := by
  unfold fX7_isWithin z_W
  split
  · rfl
  · split <;> rfl
theorem z_cmp_lt (x y : Int64) : (lg_cmp x y < 0) ↔ x < y := by
  have h := lg_cmp_ge x y
  constructor
  · intro h1
    rcases Int64.lt_or_le x y with q | q
    · exact q
    · exact absurd (h.mpr q) (Int32.not_le.mpr h1)
  · intro h1
    rcases Int32.lt_or_le (lg_cmp x y) 0 with q | q
    · exact q
    · exact absurd (h.mp q) (Int64.not_le.mpr h1)
theorem z_cmp_gt (x y : Int64) : (0 < lg_cmp x y) ↔ y < x := by
  unfold lg_cmp
  by_cases h1 : x > y
  · rw [if_pos h1]; exact ⟨fun _ => h1, fun _ => by decide⟩
  · rw [if_neg h1]
    by_cases h2 : x = y
    · rw [if_pos h2]; exact ⟨fun h => absurd h (by decide), fun h => absurd h h1⟩
    · rw [if_neg h2]; exact ⟨fun h => absurd h (by decide), fun h => absurd h h1⟩
theorem z_64lt (x y : Int32) : x.toInt64 < y.toInt64 ↔ x < y := by
  rw [Int64.lt_iff_toInt_lt, Int32.lt_iff_toInt_lt, Int32.toInt_toInt64, Int32.toInt_toInt64]
theorem z_in64 (x lo hi : Int32) (τ : x_S) : fX8_in x.toInt64 lo.toInt64 hi.toInt64 τ = some (z_W x lo hi) := by
  unfold fX8_in z_W
  by_cases h1 : x < lo
  · rw [if_pos h1, if_pos ((z_cmp_lt _ _).mpr ((z_64lt _ _).mpr h1))]
  · rw [if_neg h1, if_neg (fun q => h1 ((z_64lt _ _).mp ((z_cmp_lt _ _).mp q)))]
    by_cases h2 : hi < x
    · rw [if_pos h2, if_pos ((z_cmp_gt _ _).mpr ((z_64lt _ _).mpr h2))]
    · rw [if_neg h2, if_neg (fun q => h2 ((z_64lt _ _).mp ((z_cmp_gt _ _).mp q)))]
theorem z_Wand (x lo hi : Int32) : z_W x lo hi &&& 1 = z_W x lo hi := by
  unfold z_W
  split
  · rfl
  · split <;> rfl
theorem z_W0 {x lo hi : Int32} (h : z_W x lo hi = 0) : x < lo ∨ hi < x := by
  unfold z_W at h
  split at h
  · exact Or.inl (by assumption)
  · split at h
    · exact Or.inr (by assumption)
    · cases h
theorem z_W1 {x lo hi : Int32} (h : ¬ z_W x lo hi = 0) : ¬ x < lo ∧ ¬ hi < x := by
  unfold z_W at h
  split at h
  · exact absurd rfl h
  · split at h
    · exact absurd rfl h
    · exact ⟨by assumption, by assumption⟩
/-- a number from 0 to n - 1, or not -/
theorem z_W_ix (x : Int32) (n : Nat) (hn : n < 2 ^ 31) : (z_W x 0 (nI n) = 0) ∨ ∃ j, j ≤ n ∧ x = nI j ∧ z_W x 0 (nI n) = 1 := by
  by_cases h : z_W x 0 (nI n) = 0
  · exact Or.inl h
  · obtain ⟨h1, h2⟩ := z_W1 h
    obtain ⟨j, hj, rfl⟩ := nI_of h1
    refine Or.inr ⟨j, Nat.not_lt.mp (fun q => h2 ((nI_ltI hn hj).mpr q)), rfl, ?_⟩
    unfold z_W
    rw [if_neg h1, if_neg h2]
theorem z_ltL {a : Nat} {y : Int32} (b : Nat) (hy : y = nI b) (ha : a < 2 ^ 30) (hb : b < 2 ^ 30) : nI a < y ↔ a < b := by rw [hy]; exact nI_ltI (by omega) (by omega)
theorem z_gtL {a : Nat} {y : Int32} (b : Nat) (hy : y = nI b) (ha : a < 2 ^ 30) (hb : b < 2 ^ 30) : y < nI a ↔ b < a := by rw [hy]; exact nI_ltI (by omega) (by omega)
theorem z_leL {a : Nat} {y : Int32} (b : Nat) (hy : y = nI b) (ha : a < 2 ^ 30) (hb : b < 2 ^ 30) : nI a ≤ y ↔ a ≤ b := by rw [hy]; exact nI_leI (by omega) (by omega)
theorem z_geL {a : Nat} {y : Int32} (b : Nat) (hy : y = nI b) (ha : a < 2 ^ 30) (hb : b < 2 ^ 30) : y ≤ nI a ↔ b ≤ a := by rw [hy]; exact nI_leI (by omega) (by omega)
theorem z_eqL {a : Nat} {y : Int32} (b : Nat) (hy : y = nI b) (ha : a < 2 ^ 30) (hb : b < 2 ^ 30) : nI a = y ↔ a = b := by rw [hy]; exact nI_eq (by omega) (by omega)
