/-! ===== pure: set, copy, as ===== -/
theorem z_nar (v : Int32) (ln : Int32) (σ τ : x_S) : ∃ w, fX5_lowestBits v ln σ = some w ∧ fX8_narrow v ln τ = some w := by
  unfold fX5_lowestBits fX8_narrow
  by_cases h0 : ln = 0
  · rw [if_pos h0]; exact ⟨_, rfl, rfl⟩
  · rw [if_neg h0]
    by_cases h1 : ln = 1
    · rw [if_pos h1]; exact ⟨_, rfl, rfl⟩
    · rw [if_neg h1]; exact ⟨_, rfl, rfl⟩
theorem z_reach1 {i : Int32} {m : Nat} (hm : m ≤ 40) (h : z_reach i 1 m) : ∃ g, g < m ∧ i = nI g := by
  obtain ⟨a, b, e1, e2, h3⟩ := h
  have hb : (1 : Nat) = b := (nI_eq (by decide) (by omega)).mp e2
  exact ⟨a, by omega, e1⟩
theorem z_reach1' {g m : Nat} (h : g < m) : z_reach (nI g) 1 m := ⟨g, 1, rfl, rfl, by omega⟩
/-- set -/
theorem o_set {σ τ : x_S} (h : z_Rel σ τ) (a1 a2 a3 : Int32) : z_op (fX7_set a1 a2 a3 σ) (fX8_set a1 a2 a3 τ) z_Rel := by
  unfold z_op fX7_set fX8_set
  rcases z_isRow a1 σ τ with ⟨h1, h2⟩ | ⟨r, hr, rfl, h1, h2⟩
  · rw [h1, h2, z_p, z_p, if_pos rfl, if_pos rfl]
    exact ⟨_, _, _, rfl, rfl, h⟩
  · rw [h1, h2, z_p, z_p, if_neg z_10, if_neg z_10, z_gi hr (by decide), z_gi hr (by decide), z_gi hr (by decide), z_cl (by omega)]
    have hw := h.2.1 r hr
    unfold fX5_findingOf
    rcases z_isMissing hr hw with ⟨e1, e2⟩ | ⟨n, hn, e1, e2, e3⟩
    · rw [e1, e2, z_p, if_neg z_10, z_p, if_neg z_10, if_neg (by decide), z_found, z_find, z_b, z_b]
      exact ⟨_, _, _, rfl, rfl, z_Rel_st h 1⟩
    · rw [e3, z_p, if_pos rfl, e2, if_pos (nI_pos' (by omega)), show (0 : Int64) = (0 : Int32).toInt64 from rfl, z_in64, z_p]
      rcases z_W_n a2 (n := n) (by omega) with ⟨q, q2⟩ | ⟨g, hg, rfl, q⟩
      · rw [q, if_pos rfl]
        have hnr : ¬ z_reach a2 1 n := by
          intro hz
          obtain ⟨g, hg, rfl⟩ := z_reach1 hn hz
          rcases q2 with q2 | q2
          · exact nI_pos (by omega) q2
          · exact nI_ge hg (by omega) q2
        rcases z_Sreach hr hn e1 a2 1 with ⟨-, z⟩ | ⟨z, -⟩
        · exact absurd z hnr
        · rw [z, z_p, if_pos rfl, z_p, if_neg (by decide), z_found, z_find, z_b, z_b]
          exact ⟨_, _, _, rfl, rfl, z_Rel_st h 2⟩
      · rw [q, if_neg z_10]
        rcases z_Sreach hr hn e1 (nI g) 1 with ⟨z, -⟩ | ⟨-, z⟩
        · obtain ⟨⟨ln, hln, l1, l2⟩, -, -⟩ := hw
          obtain ⟨w, w1, w2⟩ := z_nar a3 (nI ln) σ τ
          rw [z, z_p, if_neg z_10, z_p, if_pos rfl, l2, w2, z_p, show (40 : Int32) * nI r + nI g = nI (40 * r + g) by rw [show (40 : Int32) = nI 40 from rfl, pk_mul, nI_add], z_gi (n := 320) (by omega) (by decide), z_w, z_gi (n := 320) (by omega) (by decide), z_cl (by omega), z_well, z_b]
          unfold fX5_put
          rw [z_gi hr (by decide), z_gi hr (by decide), show σ 12 (nI r).toNatClampNeg = nI ln by rw [z_cl (by omega)]; exact l1, w1, z_p, z_gi (n := 40) (by omega) (by decide), z_w, z_gi hr (by decide), z_gi (n := 40) (by omega) (by decide), z_cl (by omega), z_cl (by omega), z_b, z_fno, z_b, z_us, z_us]
          refine ⟨_, _, _, rfl, rfl, z_Rel_rows h (by show x_u _ 0 8 0 0 8 = x_u _ 0 10 0 0 10; rw [z_us, z_us]) (fun r' hr' => ?_) (fun k hk => (z_uk (by omega)).trans (z_uk (by omega))) (fun k hk => (z_uk (by omega)).trans (z_uk (by omega))) (fun j hj => (z_ui hj).trans (congrFun (z_uk (by decide)) j))⟩
          have u1 : ∀ c, c ≠ 0 → x_u (x_u σ (3 + r) g w) 0 8 0 c = x_u σ (3 + r) g w c := fun c hc => z_uk hc
          have u2 : ∀ c, c ≠ 0 → x_u (x_u τ 5 (40 * r + g) w) 0 10 0 c = x_u τ 5 (40 * r + g) w c := fun c hc => z_uk hc
          have n1 : ∀ c, c ≠ 3 + r → x_u σ (3 + r) g w c = σ c := fun c hc => z_uk hc
          have n2 : ∀ c, c ≠ 5 → x_u τ 5 (40 * r + g) w c = τ c := fun c hc => z_uk hc
          obtain ⟨⟨l9, x1, x2, x3⟩, x4, x5⟩ := h.2.1 r' hr'
          refine ⟨⟨l9, x1, ?_, ?_⟩, ?_, fun i hi => ?_⟩
          · rw [u1 12 (by decide), n1 12 (by omega)]; exact x2
          · rw [u2 3 (by decide), n2 3 (by decide)]; exact x3
          · rw [u1 11 (by decide), n1 11 (by omega), u2 4 (by decide), n2 4 (by decide)]; exact x4
          · rw [u1 _ (by omega), u2 5 (by decide)]
            by_cases e : r' = r
            · subst e
              by_cases e4 : i = g
              · subst e4; rw [z_us, z_us]
              · rw [z_ui e4, z_ui (by omega)]; exact x5 i hi
            · rw [n1 _ (by omega), z_ui (by omega)]; exact x5 i hi
        · exact absurd (z_reach1' hg) z
/-- places a + i of row k are copied to b + i, downwards -/
theorem z_fold_dn (k a b N : Nat) (hab : a ≤ b ∨ b + N ≤ a) : ∀ (d i : Nat) (σ : x_S), i + d = N → (∀ c, c ≠ k → z_fold (fun i σ => x_u σ k (b + (N - 1 - i)) (σ k (a + (N - 1 - i)))) i d σ c = σ c) ∧ (∀ j, (j < b ∨ b + (N - i) ≤ j) → z_fold (fun i σ => x_u σ k (b + (N - 1 - i)) (σ k (a + (N - 1 - i)))) i d σ k j = σ k j) ∧ ∀ t, t < N - i → z_fold (fun i σ => x_u σ k (b + (N - 1 - i)) (σ k (a + (N - 1 - i)))) i d σ k (b + t) = σ k (a + t) := by
  intro d
  induction d with
  | zero => intro i σ hi; exact ⟨fun _ _ => rfl, fun _ _ => rfl, fun t h1 => absurd h1 (by omega)⟩
  | succ d ih =>
    intro i σ hi
    obtain ⟨h1, h2, h3⟩ := ih (i + 1) (x_u σ k (b + (N - 1 - i)) (σ k (a + (N - 1 - i)))) (by omega)
    refine ⟨fun c hc => (h1 c hc).trans (z_uk hc), fun j hj => (h2 j (by omega)).trans (z_ui (by omega)), fun t ht => ?_⟩
    by_cases e : t = N - 1 - i
    · subst e
      exact (h2 (b + (N - 1 - i)) (by omega)).trans (z_us _ _ _ _)
    · exact (h3 t (by omega)).trans (z_ui (by omega))
/-- the reference's loop of copy -/
theorem z_Mcopy {τ : x_S} {ra rb i j n : Nat} (ha : ra < 8) (hb : rb < 8) (hi : i + n ≤ 40) (hj : j + n ≤ 40) : ∃ τ', (if nI j ≤ nI i then bX8_copy_107 (nI ra) (nI i) (nI rb) (nI j) (nI n) 0 0 τ else bX8_copy_107 (nI ra) (nI i) (nI rb) (nI j) (nI n) 1 0 τ) = some (nI n, x_u τ' 0 10 0) ∧ (∀ c, c ≠ 5 → τ' c = τ c) ∧ (∀ t, (t < 40 * rb + j ∨ 40 * rb + j + n ≤ t) → τ' 5 t = τ 5 t) ∧ ∀ t, t < n → τ' 5 (40 * rb + j + t) = τ 5 (40 * ra + i + t) := by
  have ea : ∀ (r i y : Nat), (40 : Int32) * nI r + nI i + nI y = nI (40 * r + i + y) := fun r i y => by rw [show (40 : Int32) = nI 40 from rfl, pk_mul, nI_add, nI_add]
  have body : ∀ (K : Int32 → x_S → Option (Int32 × x_S)) (x6 : Int32) (q y : Nat) (a : x_S), y < n → bX8_copy_131 K (nI ra) (nI i) (nI rb) (nI j) (nI n) x6 (nI q) (nI y) a = K (nI (q + 1)) (x_u a 5 (40 * rb + j + y) (a 5 (40 * ra + i + y))) := by
    intro K x6 q y a hy
    unfold bX8_copy_131
    rw [ea, ea, z_gi (n := 320) (by omega) (by decide), z_gi (n := 320) (by omega) (by decide), z_w, z_cl (by omega), z_cl (by omega), nI_1]
  by_cases hij : j ≤ i
  · rw [if_pos ((nI_leI (by omega) (by omega)).mpr hij)]
    obtain ⟨h1, h2, h3⟩ := z_fold_cp 5 (40 * ra + i) (40 * rb + j) n (by omega) n 0 τ (by omega)
    refine ⟨z_fold (fun q σ => x_u σ 5 (40 * rb + j + q) (σ 5 (40 * ra + i + q))) 0 n τ, ?_, h1, fun t ht => h2 t (by omega), fun t ht => h3 t (by omega) ht⟩
    unfold bX8_copy_107
    refine (z_loopS (N := n) (r := fun a => some (nI n, x_u a 0 10 0)) (f := fun q σ => x_u σ 5 (40 * rb + j + q) (σ 5 (40 * ra + i + q))) (fun K a q hq => ?_) (fun K a => ?_) n x_F 0 _ (by omega) (z_fuel (by omega)))
    · show gX8_copy_107 (nI ra) (nI i) (nI rb) (nI j) (nI n) 0 K (nI q) a = _
      unfold gX8_copy_107
      rw [if_neg (nI_ge hq (by omega)), if_pos rfl, body K 0 q q a hq]
    · show gX8_copy_107 (nI ra) (nI i) (nI rb) (nI j) (nI n) 0 K (nI n) a = _
      unfold gX8_copy_107
      rw [if_pos (Int32.le_refl _), z_well, z_b]
  · rw [if_neg (fun z => hij ((nI_leI (by omega) (by omega)).mp z))]
    obtain ⟨h1, h2, h3⟩ := z_fold_dn 5 (40 * ra + i) (40 * rb + j) n (by omega) n 0 τ (by omega)
    refine ⟨z_fold (fun q σ => x_u σ 5 (40 * rb + j + (n - 1 - q)) (σ 5 (40 * ra + i + (n - 1 - q)))) 0 n τ, ?_, h1, fun t ht => h2 t (by omega), fun t ht => h3 t (by omega)⟩
    unfold bX8_copy_107
    refine (z_loopS (N := n) (r := fun a => some (nI n, x_u a 0 10 0)) (f := fun q σ => x_u σ 5 (40 * rb + j + (n - 1 - q)) (σ 5 (40 * ra + i + (n - 1 - q)))) (fun K a q hq => ?_) (fun K a => ?_) n x_F 0 _ (by omega) (z_fuel (by omega)))
    · show gX8_copy_107 (nI ra) (nI i) (nI rb) (nI j) (nI n) 1 K (nI q) a = _
      unfold gX8_copy_107
      rw [if_neg (nI_ge hq (by omega)), if_neg z_10, show nI n - 1 - nI q = nI (n - 1 - q) by rw [show (1 : Int32) = nI 1 from rfl, pk_sub (by omega), pk_sub (by omega)], body K 1 q (n - 1 - q) a (by omega)]
    · show gX8_copy_107 (nI ra) (nI i) (nI rb) (nI j) (nI n) 1 K (nI n) a = _
      unfold gX8_copy_107
      rw [if_pos (Int32.le_refl _), z_well, z_b]
theorem z_carry {σ : x_S} {ra rb i j n : Nat} (ha : ra < 8) (hb : rb < 8) (hi : i + n ≤ 40) (hj : j + n ≤ 40) : fX5_carry (nI ra) (nI i) (nI rb) (nI j) (nI n) σ = some (x_r σ (3 + rb) (va_cpy (σ (3 + ra)) (σ (3 + rb)) i j n)) := by
  unfold fX5_carry
  have ci : (nI i).toNatClampNeg = i := z_cl (by omega)
  have cj : (nI j).toNatClampNeg = j := z_cl (by omega)
  have cn : (nI n).toNatClampNeg = n := z_cl (by omega)
  rw [z_gi ha (by decide), z_gi hb (by decide), z_g ⟨nI_pos (by omega), nI_pos (by omega), nI_pos (by omega), by rw [ci, cn]; exact hi, by rw [cj, cn]; exact hj⟩, z_w, ci, cj, cn, z_cl (by omega), z_cl (by omega)]
/-- copy -/
theorem o_copy {σ τ : x_S} (h : z_Rel σ τ) (a1 a2 a3 a4 a5 : Int32) : z_op (fX7_copy a1 a2 a3 a4 a5 σ) (fX8_copy a1 a2 a3 a4 a5 τ) z_Rel := by
  unfold z_op fX7_copy fX8_copy
  rcases z_isRow a1 σ τ with ⟨h1, h2⟩ | ⟨ra, hra, rfl, h1, h2⟩
  · rw [h1, h2, z_p, z_p, if_pos rfl, if_pos rfl]
    exact ⟨_, _, _, rfl, rfl, h⟩
  · rw [h1, h2, z_p, z_p, if_neg z_10, if_neg z_10]
    rcases z_isRow a3 σ τ with ⟨h3, h4⟩ | ⟨rb, hrb, rfl, h3, h4⟩
    · rw [h3, h4, z_p, z_p, if_pos rfl, if_pos rfl]
      exact ⟨_, _, _, rfl, rfl, h⟩
    · have wa := h.2.1 ra hra
      have wb := h.2.1 rb hrb
      have s39 : bX7_copy_39 σ = some (-1000010 - 1, x_u σ 0 8 1) := rfl
      have s92 : bX7_copy_92 σ = some (-1000010 - 2, x_u σ 0 8 2) := rfl
      have m35 : bX8_copy_35 τ = some (-1000010 - 1, x_u τ 0 10 1) := rfl
      have m85 : bX8_copy_85 τ = some (-1000010 - 2, x_u τ 0 10 2) := rfl
      rw [h3, h4, z_p, z_p, if_neg z_10, if_neg z_10, z_gi hra (by decide), z_gi hrb (by decide), z_gi hra (by decide), z_gi hrb (by decide), z_cl (show ra < 65536 by omega), z_cl (show rb < 65536 by omega)]
      rcases z_isMissing hra wa with ⟨e1, e2⟩ | ⟨na, hna, e1, e2, e3⟩
      · rw [e1, e2, z_p, if_neg z_10, if_pos (by decide), s39, m35]
        exact ⟨_, _, _, rfl, rfl, z_Rel_st h 1⟩
      · rw [e3, e2, z_p, if_pos rfl, if_neg (nI_pos (by omega))]
        rcases z_isMissing hrb wb with ⟨f1, f2⟩ | ⟨nb, hnb, f1, f2, f3⟩
        · rw [f1, f2, z_p, if_neg z_10, if_neg (by decide), s39, m35]
          exact ⟨_, _, _, rfl, rfl, z_Rel_st h 1⟩
        · rw [f3, f2, z_p, if_pos rfl, if_pos (nI_pos' (by omega))]
          obtain ⟨⟨la, hla, la1, la2⟩, -, ia⟩ := wa
          obtain ⟨⟨lb, hlb, lb1, lb2⟩, -, ib⟩ := wb
          unfold fX5_areAlike
          rw [z_gi hra (by decide), z_gi hrb (by decide), z_cl (show ra < 65536 by omega), z_cl (show rb < 65536 by omega), la1, lb1, la2, lb2]
          by_cases q : nI la = nI lb
          · rw [if_pos q, z_p, if_neg z_10, if_pos q]
            rcases z_Sreach hra hna e1 a2 a5 with ⟨x1, y1⟩ | ⟨x1, y1⟩
            · rcases z_Mreach hra hna e2 a2 a5 with ⟨x2, -⟩ | ⟨-, y2⟩
              · rw [x1, x2, z_p, z_p, if_neg z_10, if_neg z_10]
                rcases z_Sreach hrb hnb f1 a4 a5 with ⟨x3, y3⟩ | ⟨x3, y3⟩
                · rcases z_Mreach hrb hnb f2 a4 a5 with ⟨x4, -⟩ | ⟨-, y4⟩
                  · obtain ⟨i, n, rfl, rfl, hin⟩ := y1
                    obtain ⟨j, n', rfl, en, hjn⟩ := y3
                    have en2 : n = n' := (nI_eq (by omega) (by omega)).mp en
                    subst en2
                    obtain ⟨τ', t1, t2, t3, t4⟩ := z_Mcopy (τ := τ) hra hrb (i := i) (j := j) (n := n) (by omega) (by omega)
                    rw [x3, x4, z_p, z_p, if_neg z_10, if_neg z_10, t1, z_carry hra hrb (by omega) (by omega), z_v, z_fno, z_b]
                    refine ⟨_, _, _, rfl, rfl, z_Rel_rows h (by show x_u _ 0 8 0 0 8 = x_u _ 0 10 0 0 10; rw [z_us, z_us]) (fun r' hr' => ?_) (fun k hk => (z_uk (by omega)).trans (by rw [z_r, if_neg (by omega)])) (fun k hk => (z_uk (by omega)).trans (t2 k (by omega))) (fun j hj => (z_ui hj).trans (congrFun (t2 0 (by decide)) j))⟩
                    have u1 : ∀ c, c ≠ 0 → x_u (x_r σ (3 + rb) (va_cpy (σ (3 + ra)) (σ (3 + rb)) i j n)) 0 8 0 c = x_r σ (3 + rb) (va_cpy (σ (3 + ra)) (σ (3 + rb)) i j n) c := fun c hc => z_uk hc
                    have u2 : ∀ c, c ≠ 0 → x_u τ' 0 10 0 c = τ' c := fun c hc => z_uk hc
                    have n1 : ∀ c, c ≠ 3 + rb → x_r σ (3 + rb) (va_cpy (σ (3 + ra)) (σ (3 + rb)) i j n) c = σ c := fun c hc => by rw [z_r, if_neg hc]
                    obtain ⟨⟨l9, k1, k2, k3⟩, k4, k5⟩ := h.2.1 r' hr'
                    refine ⟨⟨l9, k1, ?_, ?_⟩, ?_, fun t ht => ?_⟩
                    · rw [u1 12 (by decide), n1 12 (by omega)]; exact k2
                    · rw [u2 3 (by decide), t2 3 (by decide)]; exact k3
                    · rw [u1 11 (by decide), n1 11 (by omega), u2 4 (by decide), t2 4 (by decide)]; exact k4
                    · rw [u1 _ (by omega), u2 5 (by decide)]
                      by_cases e : r' = rb
                      · subst e
                        rw [z_r, if_pos rfl]
                        by_cases ht2 : j ≤ t ∧ t < j + n
                        · rw [pk_cpy_in ht2.1 ht2.2]
                          have := t4 (t - j) (by omega)
                          rw [show 40 * r' + j + (t - j) = 40 * r' + t by omega] at this
                          rw [this, ia (i + (t - j)) (by omega), Nat.add_assoc]
                        · rw [pk_cpy_out (by omega), t3 _ (by omega)]
                          exact k5 t ht
                      · rw [n1 _ (by omega), t3 _ (by omega)]
                        exact k5 t ht
                  · exact absurd y3 y4
                · rcases z_Mreach hrb hnb f2 a4 a5 with ⟨-, y4⟩ | ⟨x4, -⟩
                  · exact absurd y4 y3
                  · rw [x3, x4, z_p, z_p, if_pos rfl, if_pos rfl, s92, m85]
                    exact ⟨_, _, _, rfl, rfl, z_Rel_st h 2⟩
              · exact absurd y1 y2
            · rcases z_Mreach hra hna e2 a2 a5 with ⟨-, y2⟩ | ⟨x2, -⟩
              · exact absurd y2 y1
              · rw [x1, x2, z_p, z_p, if_pos rfl, if_pos rfl, s92, m85]
                exact ⟨_, _, _, rfl, rfl, z_Rel_st h 2⟩
          · rw [if_neg q, z_p, if_pos rfl, if_neg q, z_found, z_find, z_b, z_b]
            exact ⟨_, _, _, rfl, rfl, z_Rel_st h 5⟩
