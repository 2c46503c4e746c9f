theorem z_sum_le {f g : Nat → Nat} (h : ∀ m, f m ≤ g m) (n : Nat) : z_sum f n ≤ z_sum g n := by
  induction n with
  | zero => exact Nat.le_refl _
  | succ n ih => exact Nat.add_le_add ih (h n)
theorem z_ct_le (D0 D1 : Nat → Nat) (m : Nat) : ∀ d k s, (∀ t, s ≤ t → t < s + d → D0 t ≤ 600 ∧ D1 t ≤ 600) → z_ct D0 D1 m d k s ≤ 600 * d := by
  intro d
  induction d with
  | zero => intro k s _; exact Nat.zero_le _
  | succ d ih =>
    intro k s h
    have h1 := h s (by omega) (by omega)
    have h2 := ih (k + 1) (s + 1) (fun t g1 g2 => h t (by omega) (by omega))
    show (if m / 2 ^ k % 2 = 1 then D1 s else D0 s) + z_ct D0 D1 m d (k + 1) (s + 1) ≤ 600 * (d + 1)
    split <;> omega
theorem z_shl : ∀ L, L < 8 → (1 : Int32) <<< (nI L &&& 31) = nI (2 ^ L) := by decide +kernel
theorem z_p2 : ∀ L, L < 8 → 2 ^ L ≤ 128 ∧ 10 ^ L ≤ 10000000 ∧ 0 < 10 ^ L := by decide
theorem z_outer {τ : x_S} {v : z_V} (hM : z_M τ 0 v) (hv : z_ok v) {g i L p x : Nat} (hg : g < v 2) (hL : i + L ≤ v 1) (hp : p ≤ 10) (hx : x ≤ 9999) (x6 : Int32) : ∀ d m f, m + d = 2 ^ L → d < f → x_fx (α := Int32 → Int32 → Int32 → Option Int32) (fun _ _ _ => none) (fun K => fun x8 x9 x10 => gX8_tremble_73 (nI g) (nI i) (nI x) (nI p) x6 (nI L) K x8 x9 x10 τ) f (nI (z_sum (fun m => if z_ct (z_O v (v (19 + g)) (v (25 + g))) (z_O v (v (19 + g)) (v (25 + g) + 1)) m L 0 i ≤ x then z_wt p m L 0 else 0) m)) (nI (z_sum (fun m => z_wt p m L 0) m)) (nI m) = bX8_tremble_214 x6 (nI (z_sum (fun m => if z_ct (z_O v (v (19 + g)) (v (25 + g))) (z_O v (v (19 + g)) (v (25 + g) + 1)) m L 0 i ≤ x then z_wt p m L 0 else 0) (2 ^ L))) (nI (z_sum (fun m => z_wt p m L 0) (2 ^ L))) (nI (z_sum (fun m => if z_ct (z_O v (v (19 + g)) (v (25 + g))) (z_O v (v (19 + g)) (v (25 + g) + 1)) m L 0 i ≤ x then z_wt p m L 0 else 0) (2 ^ L))) (nI (z_sum (fun m => z_wt p m L 0) (2 ^ L))) τ := by
  have h7 := hv.2.1
  obtain ⟨p1, p2, p3⟩ := z_p2 L (by omega)
  obtain ⟨hk, hi, -, -⟩ := hv.2.2.2.2.2.2 g hg
  generalize hf1 : (fun m => if z_ct (z_O v (v (19 + g)) (v (25 + g))) (z_O v (v (19 + g)) (v (25 + g) + 1)) m L 0 i ≤ x then z_wt p m L 0 else 0) = f1
  have hf1 : ∀ m, f1 m = if z_ct (z_O v (v (19 + g)) (v (25 + g))) (z_O v (v (19 + g)) (v (25 + g) + 1)) m L 0 i ≤ x then z_wt p m L 0 else 0 := fun m => (congrFun hf1 m).symm
  intro d
  induction d with
  | zero =>
    intro m f hm hf
    cases f with
    | zero => exact absurd hf (by omega)
    | succ f =>
      have e : m = 2 ^ L := by omega
      subst e
      show gX8_tremble_73 (nI g) (nI i) (nI x) (nI p) x6 (nI L) _ _ _ _ τ = _
      unfold gX8_tremble_73
      rw [z_shl L (by omega), if_pos (Int32.le_refl _)]
  | succ d ih =>
    intro m f hm hf
    cases f with
    | zero => exact absurd hf (by omega)
    | succ f =>
      have hc := z_ct_le (z_O v (v (19 + g)) (v (25 + g))) (z_O v (v (19 + g)) (v (25 + g) + 1)) m L 0 i (fun t g1 g2 => ⟨z_O_le hv.1 (by omega) (hv.2.2.2.2.2.1 t (by omega)).2, z_O_le hv.1 (by omega) (hv.2.2.2.2.2.1 t (by omega)).2⟩)
      have u : ∀ (K : Int32 → Int32 → Int32 → Option Int32) (A B : Nat), gX8_tremble_73 (nI g) (nI i) (nI x) (nI p) x6 (nI L) K (nI A) (nI B) (nI m) τ = K (nI (A + f1 m)) (nI (B + z_wt p m L 0)) (nI (m + 1)) := by
        intro K A B
        unfold gX8_tremble_73 bX8_tremble_91
        rw [z_shl L (by omega), if_neg (nI_ge (by omega) (by omega))]
        have q := z_inner hM hv hg hL hp (m := m) (by omega) K (nI x) x6 (nI A) (nI B) L 0 1 0 x_F (by omega) (z_fuel (by omega))
        refine q.trans ?_
        rw [hf1, Nat.zero_add, Nat.one_mul, Nat.add_zero i, nI_add]
        by_cases c : z_ct (z_O v (v (19 + g)) (v (25 + g))) (z_O v (v (19 + g)) (v (25 + g) + 1)) m L 0 i ≤ x
        · rw [if_neg (fun z => by have := (nI_ltI (by omega) (by omega)).mp z; omega), if_pos c, nI_add]
        · rw [if_pos ((nI_ltI (by omega) (by omega)).mpr (by omega)), if_neg c, show nI A + 0 = nI (A + 0) from nI_add A 0]
      exact (u _ _ _).trans (ih (m + 1) f (by omega) (by omega))
/-- tremble -/
theorem o_tremble {σ τ : x_S} {v : z_V} (h : z_T σ τ v) (a1 a2 a3 a4 a5 a6 : Int32) : z_rd (fX7_tremble a1 a2 a3 a4 a5 a6 σ) (fX8_tremble a1 a2 a3 a4 a5 a6 τ) := by
  have h7 := h.1.2.1
  unfold z_rd fX7_tremble fX8_tremble
  rcases h.ges a1 with ⟨h1, h2⟩ | ⟨g, hg, rfl, h1, h2⟩
  · rw [h1, h2, z_p, z_p, if_pos rfl, if_pos rfl]; exact ⟨_, rfl, rfl⟩
  · rw [h1, h2, z_p, z_p, if_neg z_10, if_neg z_10]
    rcases h.stretch a2 a3 with ⟨h3, h4⟩ | ⟨i, j, hij, hj, rfl, rfl, h3, h4⟩
    · rw [h3, h4, z_p, z_p, if_pos rfl, if_pos rfl]; exact ⟨_, rfl, rfl⟩
    · rw [h3, h4, z_p, z_p, if_neg z_10, if_neg z_10, z_isWithin, z_isWithin, z_isWithin, show (0 : Int64) = (0 : Int32).toInt64 from rfl, show (1 : Int64) = (1 : Int32).toInt64 from rfl, show (10 : Int64) = (10 : Int32).toInt64 from rfl, show (9999 : Int64) = (9999 : Int32).toInt64 from rfl, z_in64, z_in64, z_in64]
      by_cases q4 : z_W a4 0 9999 = 0
      · rw [z_p (z_W a4 0 9999), if_pos q4, z_p (z_W a4 0 9999), if_pos q4]; exact ⟨_, rfl, rfl⟩
      · rw [z_p (z_W a4 0 9999), if_neg q4, z_p (z_W a4 0 9999), if_neg q4]
        by_cases q5 : z_W a5 0 10 = 0
        · rw [z_p (z_W a5 0 10), if_pos q5, z_p (z_W a5 0 10), if_pos q5]; exact ⟨_, rfl, rfl⟩
        · rw [z_p (z_W a5 0 10), if_neg q5, z_p (z_W a5 0 10), if_neg q5]
          by_cases q6 : z_W a6 0 1 = 0
          · rw [z_p (z_W a6 0 1), if_pos q6, z_p (z_W a6 0 1), if_pos q6]; exact ⟨_, rfl, rfl⟩
          · rw [z_p (z_W a6 0 1), if_neg q6, z_p (z_W a6 0 1), if_neg q6]
            obtain ⟨x, hx, rfl⟩ := z_W3 (n := 9999) (by decide) q4
            obtain ⟨p, hp, rfl⟩ := z_W3 (n := 10) (by decide) q5
            obtain ⟨L, hL⟩ : ∃ L, L = j - i + 1 := ⟨_, rfl⟩
            obtain ⟨p1, p2, p3⟩ := z_p2 L (by omega)
            have eL : nI j - nI i + 1 = nI L := by rw [pk_sub hij, nI_1, hL]
            have hS := z_tenS h.2.1 h.1 hg hj hp L i x 12 (by omega) (by omega) hx
            have hO := z_outer h.2.2 h.1 hg (i := i) (L := L) (by omega) hp hx a6 (2 ^ L) 0 x_F (by omega) (z_fuel (by omega))
            rw [z_wt_sum hp, ← z_ten_sum] at hO
            have hA : z_ten p (z_O v (v (19 + g)) (v (25 + g))) (z_O v (v (19 + g)) (v (25 + g) + 1)) L i x ≤ 10 ^ L := by
              rw [z_ten_sum, ← z_wt_sum hp]
              refine z_sum_le (fun m => ?_) _
              split <;> omega
            generalize z_ten p (z_O v (v (19 + g)) (v (25 + g))) (z_O v (v (19 + g)) (v (25 + g) + 1)) L i x = A at hS hO hA
            have hG : 0 < Nat.gcd A (10 ^ L) := Nat.gcd_pos_of_pos_right _ p3
            have hG2 : Nat.gcd A (10 ^ L) ≤ 10 ^ L := Nat.le_of_dvd p3 (Nat.gcd_dvd_right _ _)
            have b24 : 10 ^ L < 2 ^ 24 := by have : (2 : Nat) ^ 24 = 16777216 := by decide
                                             omega
            have hgs := z_gS (σ := σ) 24 A (10 ^ L) 0 x_F (by decide) (by omega) b24 (by decide) (z_fuel (by decide))
            have hfn := z_fin (τ := τ) a6 A (10 ^ L) (by omega) (by omega) 24 A (10 ^ L) x_F (by decide) (by omega) b24 (z_fuel (by decide)) hG (by omega)
            generalize hGe : Nat.gcd A (10 ^ L) = G at hG hG2 hgs hfn
            have gne : ¬ nI G = 0 := nI_ne0 hG (by omega)
            have gif : (if 1 < nI G then nI G else 1) = nI G := by
              by_cases c : 1 < G
              · rw [if_pos ((z_gtL (y := (1 : Int32)) 1 rfl (by omega) (by decide)).mpr c)]
              · rw [if_neg (fun z => c ((z_gtL (y := (1 : Int32)) 1 rfl (by omega) (by decide)).mp z)), show G = 1 by omega]; rfl
            refine ⟨if a6 = 0 then nI (A / G) else nI (10 ^ L / G), ?_, ?_⟩
            · have hS : fX7_tenthsWithin 32 (nI g) (nI i) (nI j) (nI x) (nI p) σ = some (nI A) := hS
              rw [hS, z_p]
              have k78 : ∀ d s t f, s + d = j + 1 → d < f → x_fx (α := Int32 → Int32 → Option Int32) (fun _ _ => none) (fun K => fun x8 x9 => gX7_tremble_78 (nI j) a6 (nI A) K x8 x9 σ) f (nI t) (nI s) = x_p (fX7_commonDivisor (nI A) (nI (t * 10 ^ d)) σ) (fun r3 => if a6 = 0 then (x_g (¬ (if 1 < r3 then r3 else 1) = 0) (some (nI A / (if 1 < r3 then r3 else 1)))) else (x_g (¬ (if 1 < r3 then r3 else 1) = 0) (some (nI (t * 10 ^ d) / (if 1 < r3 then r3 else 1))))) := by
                intro d
                induction d with
                | zero =>
                  intro s t f hs hf
                  cases f with
                  | zero => exact absurd hf (by omega)
                  | succ f =>
                    show gX7_tremble_78 (nI j) a6 (nI A) _ (nI t) (nI s) σ = _
                    unfold gX7_tremble_78
                    rw [if_pos (nI_lt (by omega) (by omega)), Nat.pow_zero, Nat.mul_one]
                | succ d ih =>
                  intro s t f hs hf
                  cases f with
                  | zero => exact absurd hf (by omega)
                  | succ f =>
                    have u : ∀ K : Int32 → Int32 → Option Int32, gX7_tremble_78 (nI j) a6 (nI A) K (nI t) (nI s) σ = K (nI (t * 10)) (nI (s + 1)) := by
                      intro K
                      unfold gX7_tremble_78
                      rw [if_neg (nI_nlt (by omega) (by omega)), show nI t * 10 = nI (t * 10) from pk_mul t 10, nI_1]
                    refine (u _).trans ((ih (s + 1) (t * 10) f (by omega) (by omega)).trans ?_)
                    rw [Nat.mul_assoc, show 10 * 10 ^ d = 10 ^ (d + 1) by rw [Nat.pow_succ, Nat.mul_comm]]
              have q78 := k78 L i 1 x_F (by omega) (z_fuel (by omega))
              rw [Nat.one_mul] at q78
              have hgs : fX7_commonDivisor (nI A) (nI (10 ^ L)) σ = some (nI G) := hgs
              rw [hgs, z_p, gif, z_g gne, z_g gne, pk_div (by omega) hG (by omega), pk_div (by omega) hG (by omega)] at q78
              refine Eq.trans q78 ?_
              split <;> rfl
            · rw [eL]
              exact Eq.trans hO hfn
