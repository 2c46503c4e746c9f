/-! ===== pure: loops; what is looked at ===== -/
def z_fold {α : Type} (f : Nat → α → α) : Nat → Nat → α → α
  | _, 0, a => a
  | i, d + 1, a => z_fold f (i + 1) d (f i a)
theorem z_fuel {d : Nat} (h : d < 4096) : d < x_F := h
theorem z_loop {α β : Type} {z : α → Int32 → Option β} {b : (α → Int32 → Option β) → α → Int32 → Option β} {N : Nat} {f : Nat → α → α} {r : α → Option β} (hs : ∀ K a i, i < N → b K a (nI i) = K (f i a) (nI (i + 1))) (he : ∀ K a, b K a (nI N) = r a) :
    ∀ d n i a, i + d = N → d < n → x_fx z b n a (nI i) = r (z_fold f i d a) := by
  intro d
  induction d with
  | zero =>
    intro n i a hi hn
    cases n with
    | zero => exact absurd hn (by omega)
    | succ n =>
      show b (x_fx z b n) a (nI i) = _
      rw [show i = N by omega, he]
      rfl
  | succ d ih =>
    intro n i a hi hn
    cases n with
    | zero => exact absurd hn (by omega)
    | succ n =>
      show b (x_fx z b n) a (nI i) = _
      rw [hs _ _ _ (by omega), ih n (i + 1) _ (by omega) (by omega)]
      rfl
def z_T (σ τ : x_S) (v : z_V) : Prop := z_ok v ∧ z_S σ 32 v ∧ z_M τ 0 v
theorem z_T.ges {σ τ : x_S} {v : z_V} (h : z_T σ τ v) (a : Int32) : (fX7_isGesture a σ = some 0 ∧ fX8_isGesture a τ = some 0) ∨ ∃ g, g < v 2 ∧ a = nI g ∧ fX7_isGesture a σ = some 1 ∧ fX8_isGesture a τ = some 1 := z_ges h.2.1.2.2.1 h.2.2.2.2.1 (by have := h.1.2.2.1; omega) a
theorem z_T.str {σ τ : x_S} {v : z_V} (h : z_T σ τ v) (a : Int32) : (fX7_isStreet a σ = some 0 ∧ fX8_isStreet a τ = some 0) ∨ ∃ s, s < v 1 ∧ a = nI s ∧ fX7_isStreet a σ = some 1 ∧ fX8_isStreet a τ = some 1 := z_str h.2.1.2.1 h.2.2.2.1 (by have := h.1.2.1; omega) a
def z_bits (P : Nat → Bool) (i : Nat) (a : Int32) : Int32 := if P i then a ||| (1 <<< (nI i &&& 31)) else a ||| 0
theorem z_B0 {x : Bool} : (z_B x = 0) ↔ x = false := by cases x <;> simp [z_B]
theorem z_SseenS {σ : x_S} {v : z_V} (hS : z_S σ 32 v) (hv : z_ok v) {g : Nat} (hg : g < v 2) : fX2_streetsThatSee 32 (nI g) σ = some (z_fold (z_bits (fun s => z_seen v g s)) 0 (v 1) 0) := by
  unfold fX2_streetsThatSee bX2_streetsThatSee_4
  have h1 := hv.2.1
  refine z_loop (N := v 1) (r := fun a => some a) (f := z_bits (fun s => z_seen v g s)) (fun K a i hi => ?_) (fun K a => ?_) (v 1) x_F 0 0 (by omega) (z_fuel (by omega))
  · show gX2_streetsThatSee_4 32 (nI g) K a (nI i) σ = _
    unfold gX2_streetsThatSee_4 z_bits
    rw [hS.2.1, if_neg (nI_ge hi (by omega)), z_Sseen hS hv hg hi, z_p]
    cases hz : z_seen v g i <;> simp [z_B, nI_1, hz]
  · show gX2_streetsThatSee_4 32 (nI g) K a (nI (v 1)) σ = _
    unfold gX2_streetsThatSee_4
    rw [hS.2.1, if_pos (Int32.le_refl _)]
theorem z_MseenS {τ : x_S} {v : z_V} (hM : z_M τ 0 v) (hv : z_ok v) {g : Nat} (hg : g < v 2) : fX8_seenStreets (nI g) τ = some (z_fold (z_bits (fun s => z_seen v g s)) 0 (v 1) 0) := by
  unfold fX8_seenStreets bX8_seenStreets_4
  have h1 := hv.2.1
  refine z_loop (N := v 1) (r := fun a => some a) (f := z_bits (fun s => z_seen v g s)) (fun K a i hi => ?_) (fun K a => ?_) (v 1) x_F 0 0 (by omega) (z_fuel (by omega))
  · show gX8_seenStreets_4 (nI g) K a (nI i) τ = _
    unfold gX8_seenStreets_4 z_bits
    rw [z_c1, show τ 1 1 = nI (v 1) from hM.2.1, if_neg (nI_ge hi (by omega)), z_Mseen hM hv hg hi, z_p]
    cases hz : z_seen v g i <;> simp [z_B, nI_1, hz]
  · show gX8_seenStreets_4 (nI g) K a (nI (v 1)) τ = _
    unfold gX8_seenStreets_4
    rw [z_c1, show τ 1 1 = nI (v 1) from hM.2.1, if_pos (Int32.le_refl _)]
theorem z_SseenG {σ : x_S} {v : z_V} (hS : z_S σ 32 v) (hv : z_ok v) {s : Nat} (hs : s < v 1) : fX2_gesturesSeenIn 32 (nI s) σ = some (z_fold (z_bits (fun g => z_seen v g s)) 0 (v 2) 0) := by
  unfold fX2_gesturesSeenIn bX2_gesturesSeenIn_4
  have h2 := hv.2.2.1
  refine z_loop (N := v 2) (r := fun a => some a) (f := z_bits (fun g => z_seen v g s)) (fun K a i hi => ?_) (fun K a => ?_) (v 2) x_F 0 0 (by omega) (z_fuel (by omega))
  · show gX2_gesturesSeenIn_4 32 (nI s) K a (nI i) σ = _
    unfold gX2_gesturesSeenIn_4 z_bits
    rw [hS.2.2.1, if_neg (nI_ge hi (by omega)), z_Sseen hS hv hi hs, z_p]
    cases hz : z_seen v i s <;> simp [z_B, nI_1, hz]
  · show gX2_gesturesSeenIn_4 32 (nI s) K a (nI (v 2)) σ = _
    unfold gX2_gesturesSeenIn_4
    rw [hS.2.2.1, if_pos (Int32.le_refl _)]
theorem z_MseenG {τ : x_S} {v : z_V} (hM : z_M τ 0 v) (hv : z_ok v) {s : Nat} (hs : s < v 1) : fX8_seenGestures (nI s) τ = some (z_fold (z_bits (fun g => z_seen v g s)) 0 (v 2) 0) := by
  unfold fX8_seenGestures bX8_seenGestures_4
  have h2 := hv.2.2.1
  refine z_loop (N := v 2) (r := fun a => some a) (f := z_bits (fun g => z_seen v g s)) (fun K a i hi => ?_) (fun K a => ?_) (v 2) x_F 0 0 (by omega) (z_fuel (by omega))
  · show gX8_seenGestures_4 (nI s) K a (nI i) τ = _
    unfold gX8_seenGestures_4 z_bits
    rw [z_c2, show τ 1 2 = nI (v 2) from hM.2.2.1, if_neg (nI_ge hi (by omega)), z_Mseen hM hv hi hs, z_p]
    cases hz : z_seen v i s <;> simp [z_B, nI_1, hz]
  · show gX8_seenGestures_4 (nI s) K a (nI (v 2)) τ = _
    unfold gX8_seenGestures_4
    rw [z_c2, show τ 1 2 = nI (v 2) from hM.2.2.1, if_pos (Int32.le_refl _)]
theorem z_10 : ¬ ((1 : Int32) = 0) := by decide
/-- gesture -/
theorem o_gesture {σ τ : x_S} {v : z_V} (h : z_T σ τ v) (a1 a2 : Int32) : ∃ r, fX7_gesture a1 a2 σ = some r ∧ fX8_gesture a1 a2 τ = some r := by
  unfold fX7_gesture fX8_gesture
  rcases h.ges a1 with ⟨h1, h2⟩ | ⟨g, hg, rfl, h1, h2⟩
  · exact ⟨_, by rw [h1, z_p, if_pos rfl], by rw [h2, z_p, if_pos rfl]⟩
  · rw [h1, h2, z_p, z_p, if_neg z_10, if_neg z_10]
    have h6 := h.1.2.2.1
    obtain ⟨-, e1, e2, e3, e4⟩ := h.2.1.2.2.2.2.2.2 g hg
    obtain ⟨-, f1, f2, f3, f4⟩ := h.2.2.2.2.2.2.2.2 g hg
    rw [Nat.zero_add] at f1 f2 f3 f4
    have k1 : σ 36 g = nI (v (25 + g)) := e1
    have k2 : σ 37 g = nI (v (31 + g)) := e2
    have k3 : σ 38 g = nI (v (37 + g)) := e3
    have k4 : σ 39 g = nI (v (43 + g)) := e4
    rw [show (25 : Int32) + nI g = nI (25 + g) from nI_add 25 g, show (31 : Int32) + nI g = nI (31 + g) from nI_add 31 g, show (37 : Int32) + nI g = nI (37 + g) from nI_add 37 g, show (43 : Int32) + nI g = nI (43 + g) from nI_add 43 g]
    simp only [z_gi (n := 6) (show g < 6 by omega) (by decide), z_gi (n := 1372) (show 25 + g < 1372 by omega) (by decide), z_gi (n := 1372) (show 31 + g < 1372 by omega) (by decide), z_gi (n := 1372) (show 37 + g < 1372 by omega) (by decide), z_gi (n := 1372) (show 43 + g < 1372 by omega) (by decide), z_cl (show g < 65536 by omega), z_cl (show 25 + g < 65536 by omega), z_cl (show 31 + g < 65536 by omega), z_cl (show 37 + g < 65536 by omega), z_cl (show 43 + g < 65536 by omega), k1, k2, k3, k4, f1, f2, f3, f4, z_SseenS h.2.1 h.1 hg, z_MseenS h.2.2 h.1 hg, z_p]
    by_cases c0 : a2 = 0
    · rw [if_pos c0]; exact ⟨_, rfl, rfl⟩
    · rw [if_neg c0]
      by_cases c1 : a2 = 1
      · rw [if_pos c1]; exact ⟨_, rfl, rfl⟩
      · rw [if_neg c1]
        by_cases c2 : a2 = 2
        · rw [if_pos c2]; exact ⟨_, rfl, rfl⟩
        · rw [if_neg c2]
          by_cases c3 : a2 = 3
          · rw [if_pos c3]; exact ⟨_, rfl, rfl⟩
          · rw [if_neg c3]
            by_cases c4 : a2 = 4
            · rw [if_pos c4]; exact ⟨_, rfl, rfl⟩
            · rw [if_neg c4]; exact ⟨_, rfl, rfl⟩
/-- street -/
theorem o_street {σ τ : x_S} {v : z_V} (h : z_T σ τ v) (a1 a2 : Int32) : ∃ r, fX7_street a1 a2 σ = some r ∧ fX8_street a1 a2 τ = some r := by
  unfold fX7_street fX8_street
  rcases h.str a1 with ⟨h1, h2⟩ | ⟨s, hs, rfl, h1, h2⟩
  · exact ⟨_, by rw [h1, z_p, if_pos rfl], by rw [h2, z_p, if_pos rfl]⟩
  · rw [h1, h2, z_p, z_p, if_neg z_10, if_neg z_10]
    have h7 := h.1.2.1
    obtain ⟨e1, e2⟩ := h.2.1.2.2.2.2.2.1 s hs
    obtain ⟨f1, f2⟩ := h.2.2.2.2.2.2.2.1 s hs
    rw [Nat.zero_add] at f1 f2
    have k1 : σ 33 s = nI (v (5 + s)) := e1
    have k2 : σ 34 s = nI (v (12 + s)) := e2
    have kk : σ 32 4 = nI (v 4) := h.2.1.2.2.2.2.1
    have km : τ 1 4 = nI (v 4) := h.2.2.2.2.2.2.1
    have hb := z_bit (v 4) h.1.2.2.2.2.1 s (by omega)
    rw [show (5 : Int32) + nI s = nI (5 + s) from nI_add 5 s, show (12 : Int32) + nI s = nI (12 + s) from nI_add 12 s]
    unfold fX2_isKnown
    simp only [z_gi (n := 7) (show s < 7 by omega) (by decide), z_gi (n := 1372) (show 5 + s < 1372 by omega) (by decide), z_gi (n := 1372) (show 12 + s < 1372 by omega) (by decide), z_cl (show s < 65536 by omega), z_cl (show 5 + s < 65536 by omega), z_cl (show 12 + s < 65536 by omega), k1, k2, kk, km, z_c4, f1, f2, z_SseenG h.2.1 h.1 hs, z_MseenG h.2.2 h.1 hs, z_p]
    by_cases c0 : a2 = 0
    · rw [if_pos c0, if_pos c0]; exact ⟨_, rfl, rfl⟩
    · rw [if_neg c0, if_neg c0]
      by_cases c1 : a2 = 1
      · rw [if_pos c1, if_pos c1]; exact ⟨_, rfl, rfl⟩
      · rw [if_neg c1, if_neg c1]
        by_cases c2 : a2 = 2
        · rw [if_pos c2, if_pos c2]
          refine ⟨_, ?_, rfl⟩
          by_cases q : ((nI (v 4)) >>> (nI s &&& 31)) &&& 1 = 1
          · rw [if_pos q, z_p, if_neg z_10, q]
          · rw [if_neg q, z_p, if_pos rfl]
            have : ((nI (v 4)) >>> (nI s &&& 31)) &&& 1 = 0 := by
              obtain ⟨j, hj, ej⟩ := pk_andE ((nI (v 4)) >>> (nI s &&& 31)) (m := 1) 1 (by decide)
              rw [ej] at q ⊢
              rcases (show j = 0 ∨ j = 1 by omega) with rfl | rfl
              · rfl
              · exact absurd rfl q
            rw [this]
        · rw [if_neg c2, if_neg c2]
          by_cases c3 : a2 = 3
          · rw [if_pos c3]; exact ⟨_, rfl, rfl⟩
          · rw [if_neg c3]; exact ⟨_, rfl, rfl⟩
/-- duty -/
theorem o_duty {σ τ : x_S} {v : z_V} (h : z_T σ τ v) (a1 a2 : Int32) : ∃ r, fX7_duty a1 a2 σ = some r ∧ fX8_duty a1 a2 τ = some r := by
  unfold fX7_duty fX8_duty
  rcases h.ges a1 with ⟨h1, h2⟩ | ⟨g, hg, rfl, h1, h2⟩
  · exact ⟨_, by rw [h1, z_p, if_pos rfl], by rw [h2, z_p, if_pos rfl]⟩
  · rw [h1, h2, z_p, z_p, if_neg z_10, if_neg z_10]
    rcases h.str a2 with ⟨h3, h4⟩ | ⟨s, hs, rfl, h3, h4⟩
    · exact ⟨_, by rw [h3, z_p, if_pos rfl], by rw [h4, z_p, if_pos rfl]⟩
    · rw [h3, h4, z_p, z_p, if_neg z_10, if_neg z_10, z_SD h.2.1 h.1 hg hs, z_MD h.2.2 h.1 hg hs]
      exact ⟨_, rfl, rfl⟩
/-- kind -/
theorem o_kind {σ τ : x_S} {v : z_V} (h : z_T σ τ v) (a1 : Int32) : ∃ r, fX7_kind a1 σ = some r ∧ fX8_kind a1 τ = some r := by
  unfold fX7_kind fX8_kind
  rcases h.ges a1 with ⟨h1, h2⟩ | ⟨g, hg, rfl, h1, h2⟩
  · exact ⟨_, by rw [h1, z_p, if_pos rfl], by rw [h2, z_p, if_pos rfl]⟩
  · have h6 := h.1.2.2.1
    obtain ⟨e1, -⟩ := h.2.1.2.2.2.2.2.2 g hg
    obtain ⟨f1, -⟩ := h.2.2.2.2.2.2.2.2 g hg
    rw [Nat.zero_add] at f1
    have k1 : σ 35 g = nI (v (19 + g)) := e1
    rw [h1, h2, z_p, z_p, if_neg z_10, if_neg z_10, show (19 : Int32) + nI g = nI (19 + g) from nI_add 19 g, z_gi (n := 6) (by omega) (by decide), z_gi (n := 1372) (by omega) (by decide), z_cl (by omega), z_cl (by omega), k1, f1]
    exact ⟨_, rfl, rfl⟩
