/-! ===== pure: worst ===== -/
def z_best (v : z_V) (g : Nat) (s w : Nat) : Nat := if z_D v g s ≤ z_D v g w then w else s
theorem z_fold_best (v : z_V) (g N : Nat) : ∀ d i w, i + d = N → w < N → z_fold (z_best v g) i d w < N := by
  intro d
  induction d with
  | zero => intro i w _ hw; exact hw
  | succ d ih =>
    intro i w hi hw
    refine ih (i + 1) _ (by omega) ?_
    unfold z_best
    split <;> omega
theorem z_D_le {v : z_V} (hv : z_ok v) {g s : Nat} (hg : g < v 2) (hs : s < v 1) : z_D v g s ≤ 600 := z_O_le hv.1 (by have := (hv.2.2.2.2.2.2 g hg).2.1; omega) (hv.2.2.2.2.2.1 s hs).2
theorem o_worst {σ τ : x_S} {v : z_V} (h : z_T σ τ v) (a1 a2 : Int32) : z_rd (fX7_worst a1 a2 σ) (fX8_worst a1 a2 τ) := by
  have h7 := h.1.2.1
  have h6 := h.1.2.2.1
  unfold z_rd fX7_worst fX8_worst
  rcases h.ges a1 with ⟨h1, h2⟩ | ⟨g, hg, rfl, h1, h2⟩
  · rw [h1, h2, z_p, z_p, if_pos rfl, if_pos rfl]; exact ⟨_, rfl, rfl⟩
  · rw [h1, h2, z_p, z_p, if_neg z_10, if_neg z_10, z_isWithin, show (0 : Int64) = (0 : Int32).toInt64 from rfl, show (1 : Int64) = (1 : Int32).toInt64 from rfl, z_in64, z_p, z_p]
    by_cases q : z_W a2 0 1 = 0
    · rw [if_pos q, if_pos q]; exact ⟨_, rfl, rfl⟩
    · rw [if_neg q, if_neg q, h.2.1.2.1]
      have hn : τ 1 1 = nI (v 1) := h.2.2.2.1
      unfold bX8_worst_31
      obtain ⟨F, hF⟩ : ∃ F, x_F = F + 1 ∧ F = 4095 := ⟨4095, rfl, rfl⟩
      have hD : ∀ s, s < v 1 → z_D v g s ≤ 600 := fun s hs => z_D_le h.1 hg hs
      by_cases c : v 1 = 0
      · rw [c, if_pos (by decide), hF.1]
        refine ⟨-1000000, rfl, ?_⟩
        show gX8_worst_31 (nI g) a2 _ (-1000000) (-1000000) 0 τ = _
        unfold gX8_worst_31
        rw [z_c1, hn, c, if_pos (by decide)]
        split <;> rfl
      · rw [if_neg (fun z => c ((z_eqL (y := (0 : Int32)) 0 rfl (by omega) (by decide)).mp z))]
        have tS : ∀ (K : Int32 → Int32 → Option Int32) i w, i < v 1 → w < v 1 → gX2_dearestStreet_4 32 (nI g) K (nI w) (nI i) σ = K (nI (z_best v g i w)) (nI (i + 1)) := by
          intro K i w hi hw
          have d1 := hD i hi
          have d2 := hD w hw
          unfold gX2_dearestStreet_4 z_best
          rw [h.2.1.2.1, if_neg (nI_ge (by omega) (by omega)), z_SD h.2.1 h.1 hg hi, z_SD h.2.1 h.1 hg hw, z_p, z_p, nI_1]
          by_cases cc : z_D v g i ≤ z_D v g w
          · rw [if_pos ((nI_leI (by omega) (by omega)).mpr cc), if_pos cc]
          · rw [if_neg (fun z => cc ((nI_leI (by omega) (by omega)).mp z)), if_neg cc]
        have tM : ∀ (K : Int32 → Int32 → Int32 → Option Int32) i w, i < v 1 → w < v 1 → gX8_worst_31 (nI g) a2 K (nI w) (nI (z_D v g w)) (nI i) τ = K (nI (z_best v g i w)) (nI (z_D v g (z_best v g i w))) (nI (i + 1)) := by
          intro K i w hi hw
          have d1 := hD i hi
          have d2 := hD w hw
          unfold gX8_worst_31 bX8_worst_64 z_best
          rw [z_c1, hn, if_neg (nI_ge (by omega) (by omega)), z_MD h.2.2 h.1 hg hi, z_p, nI_1]
          by_cases cc : z_D v g i ≤ z_D v g w
          · rw [if_pos ((nI_leI (by omega) (by omega)).mpr cc), if_pos ((nI_leI (by omega) (by omega)).mpr cc), if_pos cc]
          · rw [if_neg (fun z => cc ((nI_leI (by omega) (by omega)).mp z)), if_neg (fun z => cc ((nI_leI (by omega) (by omega)).mp z)), if_neg cc]
        have tM0 : ∀ (K : Int32 → Int32 → Int32 → Option Int32), gX8_worst_31 (nI g) a2 K (-1000000) (-1000000) (nI 0) τ = K (nI 0) (nI (z_D v g 0)) (nI (0 + 1)) := by
          intro K
          have d0 := hD 0 (by omega)
          have neg : ∀ k : Nat, k ≤ 600 → ¬ (nI k ≤ -1000000) := by
            intro k hk z
            have h1 : (nI k).toInt = (k : Int) := nI_toInt (by omega)
            have h2 := Int32.le_iff_toInt_le.mp z
            rw [h1] at h2
            have h3 : ((-1000000 : Int32)).toInt = -1000000 := by decide
            rw [h3] at h2
            omega
          unfold gX8_worst_31 bX8_worst_64
          rw [z_c1, hn, if_neg (nI_ge (by omega) (by omega)), z_MD h.2.2 h.1 hg (show 0 < v 1 by omega), z_p, nI_1, if_neg (neg _ d0), if_neg (neg _ d0)]
        have kS : ∀ d n i w, i + d = v 1 → w < v 1 → d < n → x_fx (α := Int32 → Int32 → Option Int32) (fun _ _ => none) (fun K => fun x2 x3 => gX2_dearestStreet_4 32 (nI g) K x2 x3 σ) n (nI w) (nI i) = some (nI (z_fold (z_best v g) i d w)) := by
          intro d
          induction d with
          | zero =>
            intro n i w hi hw hn2
            cases n with
            | zero => exact absurd hn2 (by omega)
            | succ n =>
              show gX2_dearestStreet_4 32 (nI g) _ (nI w) (nI i) σ = _
              unfold gX2_dearestStreet_4
              rw [h.2.1.2.1, if_pos (nI_le (by omega) (by omega))]
              rfl
          | succ d ih =>
            intro n i w hi hw hn2
            cases n with
            | zero => exact absurd hn2 (by omega)
            | succ n =>
              show gX2_dearestStreet_4 32 (nI g) (x_fx _ _ n) (nI w) (nI i) σ = _
              exact (tS _ i w (by omega) hw).trans (ih n (i + 1) (z_best v g i w) (by omega) (by unfold z_best; split <;> omega) (by omega))
        have kM : ∀ d n i w, i + d = v 1 → w < v 1 → d < n → x_fx (α := Int32 → Int32 → Int32 → Option Int32) (fun _ _ _ => none) (fun K => fun x3 x4 x5 => gX8_worst_31 (nI g) a2 K x3 x4 x5 τ) n (nI w) (nI (z_D v g w)) (nI i) = if a2 = 0 then some (nI (z_fold (z_best v g) i d w)) else some (nI (z_D v g (z_fold (z_best v g) i d w))) := by
          intro d
          induction d with
          | zero =>
            intro n i w hi hw hn2
            cases n with
            | zero => exact absurd hn2 (by omega)
            | succ n =>
              show gX8_worst_31 (nI g) a2 _ (nI w) (nI (z_D v g w)) (nI i) τ = _
              unfold gX8_worst_31
              rw [z_c1, hn, if_pos (nI_le (by omega) (by omega))]
              rfl
          | succ d ih =>
            intro n i w hi hw hn2
            cases n with
            | zero => exact absurd hn2 (by omega)
            | succ n =>
              show gX8_worst_31 (nI g) a2 (x_fx _ _ n) (nI w) (nI (z_D v g w)) (nI i) τ = _
              exact (tM _ i w (by omega) hw).trans (ih n (i + 1) (z_best v g i w) (by omega) (by unfold z_best; split <;> omega) (by omega))
        have fS : fX2_dearestStreet 32 (nI g) σ = some (nI (z_fold (z_best v g) 1 (v 1 - 1) 0)) := kS (v 1 - 1) x_F 1 0 (by omega) (by omega) (z_fuel (by omega))
        have hb : z_fold (z_best v g) 1 (v 1 - 1) 0 < v 1 := z_fold_best v g (v 1) (v 1 - 1) 1 0 (by omega) (by omega)
        have fM : x_fx (α := Int32 → Int32 → Int32 → Option Int32) (fun _ _ _ => none) (fun K => fun x3 x4 x5 => gX8_worst_31 (nI g) a2 K x3 x4 x5 τ) x_F (-1000000) (-1000000) 0 = if a2 = 0 then some (nI (z_fold (z_best v g) 1 (v 1 - 1) 0)) else some (nI (z_D v g (z_fold (z_best v g) 1 (v 1 - 1) 0))) := by
          rw [hF.1]
          show gX8_worst_31 (nI g) a2 (x_fx _ _ F) (-1000000) (-1000000) (nI 0) τ = _
          refine (tM0 _).trans ?_
          exact kM (v 1 - 1) F 1 0 (by omega) (by omega) (by omega)
        rw [fM, fS, z_p]
        by_cases c0 : a2 = 0
        · rw [if_pos c0, if_pos c0]; exact ⟨_, rfl, rfl⟩
        · rw [if_neg c0, if_neg c0, z_SD h.2.1 h.1 hg hb, z_p]; exact ⟨_, rfl, rfl⟩
