/-! ===== pure: the acts ===== -/
theorem z_loopP {α β : Type} (P : α → Prop) {z : Int32 → α → Option β} {b : (Int32 → α → Option β) → Int32 → α → Option β} {N : Nat} {f : Nat → α → α} {r : α → Option β} (hP : ∀ a i, P a → P (f i a)) (hs : ∀ K a i, P a → i < N → b K (nI i) a = K (nI (i + 1)) (f i a)) (he : ∀ K a, P a → b K (nI N) a = r a) :
    ∀ d n i a, P a → i + d = N → d < n → x_fx z b n (nI i) a = r (z_fold f i d a) := by
  intro d
  induction d with
  | zero =>
    intro n i a ha hi hn
    cases n with
    | zero => exact absurd hn (by omega)
    | succ n =>
      show b (x_fx z b n) (nI i) a = _
      rw [show i = N by omega, he _ _ ha]
      rfl
  | succ d ih =>
    intro n i a ha hi hn
    cases n with
    | zero => exact absurd hn (by omega)
    | succ n =>
      show b (x_fx z b n) (nI i) a = _
      rw [hs _ _ _ ha (by omega), ih n (i + 1) _ (hP _ _ ha) (by omega) (by omega)]
      rfl
theorem z_copyTown {τ : x_S} {a b : Nat} (ha : a + 49 ≤ 1372) (hb : b + 49 ≤ 1372) (hab : b ≤ a ∨ a + 49 ≤ b) : ∃ τ', fX8_copyTown (nI a) (nI b) τ = some τ' ∧ (∀ c, c ≠ 1 → τ' c = τ c) ∧ (∀ j, (j < b ∨ b + 49 ≤ j) → τ' 1 j = τ 1 j) ∧ ∀ t, t < 49 → τ' 1 (b + t) = τ 1 (a + t) := by
  obtain ⟨h1, h2, h3⟩ := z_fold_cp 1 a b 49 hab 49 0 τ (by omega)
  refine ⟨_, ?_, h1, fun j hj => h2 j (by omega), fun t ht => h3 t (by omega) ht⟩
  unfold fX8_copyTown bX8_copyTown_2
  refine (z_loopS (N := 49) (r := fun a => some a) (f := fun i σ => x_u σ 1 (b + i) (σ 1 (a + i))) (fun K u i hi => ?_) (fun K u => ?_) 49 x_F 0 _ (by omega) (z_fuel (by omega)))
  · show gX8_copyTown_2 (nI a) (nI b) K (nI i) u = _
    unfold gX8_copyTown_2
    rw [if_neg (fun z => by have := (z_geL (a := i) (y := (49 : Int32)) 49 rfl (by omega) (by decide)).mp z; omega), nI_add, nI_add, z_gi (n := 1372) (by omega) (by decide), z_gi (n := 1372) (by omega) (by decide), z_w, z_cl (by omega), z_cl (by omega), nI_1]
  · show gX8_copyTown_2 (nI a) (nI b) K (nI 49) u = _
    unfold gX8_copyTown_2
    rw [if_pos (by decide)]
theorem z_keepPast {τ : x_S} {n : Nat} (hn : n ≤ 24) (h2 : τ 0 2 = nI n) : ∃ τ', fX8_keepPast τ = some τ' ∧ (∀ c, c ≠ 0 → c ≠ 1 → τ' c = τ c) ∧ (∀ j, j ≠ 2 → τ' 0 j = τ 0 j) ∧ τ' 0 2 = nI (min (n + 1) 24) ∧ (∀ j, (j < 49 ∨ 1225 ≤ j) → τ' 1 j = τ 1 j) ∧ (∀ k, k < 49 → τ' 1 (49 + 49 * (min n 23) + k) = τ 1 k) ∧ ∀ k, k < 49 * (min n 23) → τ' 1 (49 + k) = if n = 24 then τ 1 (98 + k) else τ 1 (49 + k) := by
  have b61 : ∀ (u : x_S) (m y : Nat), m ≤ 23 → u 0 2 = nI n → n = m + y → ∃ τ', bX8_keepPast_61 (nI y) (nI n) u = some τ' ∧ (∀ c, c ≠ 0 → c ≠ 1 → τ' c = u c) ∧ (∀ j, j ≠ 2 → τ' 0 j = u 0 j) ∧ τ' 0 2 = nI (m + 1) ∧ (∀ j, (j < 49 + 49 * m ∨ 49 + 49 * m + 49 ≤ j) → τ' 1 j = u 1 j) ∧ ∀ k, k < 49 → τ' 1 (49 + 49 * m + k) = u 1 k := by
    intro u m y hm hu hy
    subst hy
    obtain ⟨w, w1, w2, w3, w4⟩ := z_copyTown (τ := x_u u 0 2 (nI m)) (a := 0) (b := 49 + 49 * m) (by omega) (by omega) (by omega)
    refine ⟨x_u w 0 2 (nI m + 1), ?_, fun c c0 c1 => (z_uk c0).trans ((w2 c c1).trans (z_uk c0)), fun j hj => (z_ui hj).trans ((congrFun (w2 0 (by decide)) j).trans (z_ui hj)), (z_us _ _ _ _).trans (nI_1 m), fun j hj => (congrFun (z_uk (by decide)) j).trans ((w3 j hj).trans (congrFun (z_uk (by decide)) j)), fun k hk => (congrFun (z_uk (by decide)) _).trans ((w4 k hk).trans ?_)⟩
    · unfold bX8_keepPast_61
      have e1 : nI (m + y) - nI y = nI m := by rw [pk_sub (by omega)]; congr 1; omega
      rw [z_w, e1, z_us, show (49 : Int32) + 49 * nI m = nI (49 + 49 * m) by rw [show (49 : Int32) = nI 49 from rfl, pk_mul, nI_add], show (0 : Int32) = nI 0 from rfl, w1, z_v, z_w, show w 0 2 = nI m from (congrFun (w2 0 (by decide)) 2).trans (z_us _ _ _ _)]
    · rw [Nat.zero_add, z_uk (by decide)]
  unfold fX8_keepPast bX8_keepPast_2
  by_cases q : n = 24
  · subst q
    obtain ⟨f1, f2, f3⟩ := z_fold_cp 1 98 49 1127 (by omega) 1127 0 τ (by omega)
    have g02 : z_fold (fun i σ => x_u σ 1 (49 + i) (σ 1 (98 + i))) 0 1127 τ 0 2 = nI 24 := by rw [f1 0 (by decide)]; exact h2
    obtain ⟨τ', t1, t2, t3, t4, t5, t6⟩ := b61 _ 23 1 (by omega) g02 (by omega)
    refine ⟨τ', ?_, fun c c0 c1 => (t2 c c0 c1).trans (f1 c c1), fun j hj => (t3 j hj).trans (congrFun (f1 0 (by decide)) j), t4, fun j hj => (t5 j (by omega)).trans (f2 j (by omega)), fun k hk => (t6 k hk).trans (f2 k (by omega)), fun k hk => ?_⟩
    · refine (z_loopP (fun u : x_S => u 0 2 = nI 24) (N := 1127) (r := bX8_keepPast_42) (f := fun i σ => x_u σ 1 (49 + i) (σ 1 (98 + i))) (fun u i hu => (congrFun (z_uk (by decide)) 2).trans hu) (fun K u i hu hi => ?_) (fun K u hu => ?_) 1127 x_F 0 _ h2 (by omega) (z_fuel (by omega))).trans ?_
      · show gX8_keepPast_2 K (nI i) u = _
        unfold gX8_keepPast_2
        rw [if_neg (fun z => by have := (z_geL (a := i) (y := (1127 : Int32)) 1127 rfl (by omega) (by decide)).mp z; omega), hu, if_pos (by decide), show (98 : Int32) + nI i = nI (98 + i) from nI_add 98 i, show (49 : Int32) + nI i = nI (49 + i) from nI_add 49 i, z_gi (n := 1372) (by omega) (by decide), z_gi (n := 1372) (by omega) (by decide), z_w, z_cl (by omega), z_cl (by omega), nI_1]
      · show gX8_keepPast_2 K (nI 1127) u = _
        unfold gX8_keepPast_2
        rw [if_pos (by decide)]
      · unfold bX8_keepPast_42
        rw [g02, if_pos (by decide)]
        exact t1
    · have hk : k < 1127 := by have : min 24 23 = 23 := rfl; omega
      rw [if_pos rfl]
      exact (t5 _ (by omega)).trans (f3 k (by omega) hk)
  · have m1 : min n 23 = n := by omega
    have m2 : min (n + 1) 24 = n + 1 := by omega
    rw [m1, m2]
    obtain ⟨τ', t1, t2, t3, t4, t5, t6⟩ := b61 τ n 0 (by omega) h2 (by omega)
    refine ⟨τ', ?_, t2, t3, t4, fun j hj => t5 j (by omega), t6, fun k hk => ?_⟩
    · obtain ⟨F, hF⟩ : ∃ F, x_F = F + 1 := ⟨4095, rfl⟩
      rw [hF]
      show gX8_keepPast_2 _ 0 τ = _
      unfold gX8_keepPast_2 bX8_keepPast_42
      have h24 : ¬ nI n = 24 := fun z => q ((z_eqL (y := (24 : Int32)) 24 rfl (by omega) (by decide)).mp z)
      rw [if_neg (by decide), h2, if_neg h24, if_neg h24]
      exact t1
    · rw [if_neg q]; exact t5 _ (by omega)
theorem z_keep {σ : x_S} {n p : Nat} (hn : n ≤ 24) (hp : p < 24) (h3 : σ 16 3 = nI p) (h4 : σ 16 4 = nI n) (a1 a2 a3 : Int32) : ∃ σ', fX0_keep a1 a2 a3 σ = some σ' ∧ (∀ c, (c < 16 ∨ 20 ≤ c) → σ' c = σ c) ∧ σ' 16 3 = nI ((p + 1) % 24) ∧ σ' 16 4 = nI (min (n + 1) 24) ∧ σ' 17 p = a1 ∧ σ' 18 p = a2 ∧ σ' 19 p = a3 ∧ ∀ j, j ≠ p → σ' 17 j = σ 17 j ∧ σ' 18 j = σ 18 j ∧ σ' 19 j = σ 19 j := by
  have e1 : (nI p + 1) - (nI p + 1) / 24 * 24 = nI ((p + 1) % 24) := by
    have : ∀ p, p < 24 → (nI p + 1) - (nI p + 1) / 24 * 24 = nI ((p + 1) % 24) := by decide +kernel
    exact this p hp
  have e2 : (if 24 < nI n + 1 then 24 else nI n + 1) = nI (min (n + 1) 24) := by
    have : ∀ n, n < 25 → (if 24 < nI n + 1 then 24 else nI n + 1) = nI (min (n + 1) 24) := by decide +kernel
    exact this n (by omega)
  refine ⟨x_u (x_u (x_u (x_u (x_u σ 17 p a1) 18 p a2) 19 p a3) 16 3 (nI ((p + 1) % 24))) 16 4 (nI (min (n + 1) 24)), ?_, fun c hc => ?_, ?_, z_us _ _ _ _, ?_, ?_, ?_, fun j hj => ⟨?_, ?_, ?_⟩⟩
  · unfold fX0_keep
    rw [h3, z_gi hp (by decide), z_w, z_uk (k := 17) (by decide), h3, z_gi hp (by decide), z_w, z_uk (k := 18) (by decide), z_uk (k := 17) (by decide), h3, z_gi hp (by decide), z_w, z_uk (k := 19) (by decide), z_uk (k := 18) (by decide), z_uk (k := 17) (by decide), h3, z_w, z_ui (by decide), z_uk (k := 19) (by decide), z_uk (k := 18) (by decide), z_uk (k := 17) (by decide), h4, z_w, z_cl (by omega), e1, e2]
  · rw [z_uk (by omega), z_uk (by omega), z_uk (by omega), z_uk (by omega), z_uk (by omega)]
  · rw [z_ui (by decide), z_us]
  · rw [z_uk (by decide), z_uk (by decide), z_uk (by decide), z_uk (by decide), z_us]
  · rw [z_uk (by decide), z_uk (by decide), z_uk (by decide), z_us]
  · rw [z_uk (by decide), z_uk (by decide), z_us]
  · rw [z_uk (by decide), z_uk (by decide), z_uk (by decide), z_uk (by decide), z_ui hj]
  · rw [z_uk (by decide), z_uk (by decide), z_uk (by decide), z_ui hj, z_uk (by decide)]
  · rw [z_uk (by decide), z_uk (by decide), z_ui hj, z_uk (by decide), z_uk (by decide)]
