/-! ===== pure: along a thread ===== -/
theorem z_and1 : (1 : Int32) &&& 1 = 1 := rfl
theorem z_and0 : (0 : Int32) &&& 1 = 0 := rfl
theorem z_ow0 {τ : x_S} (x1 x2 : Int32) {r i n : Nat} (hr : r < 8) (hin : i + 2 * n ≤ 40) : ∀ d f j, j + d = n → d < f → x_fx (α := Int32 → Int32 → Option Int32) (fun _ _ => none) (fun K => fun x6 x7 => gX8_owesSo_12 x1 x2 (nI r) (nI i) (nI n) K x6 x7 τ) f 0 (nI (40 * r + i + 2 * j)) = some 0 := by
  intro d
  induction d with
  | zero =>
    intro f j hj hf
    cases f with
    | zero => exact absurd hf (by omega)
    | succ f =>
      show gX8_owesSo_12 x1 x2 (nI r) (nI i) (nI n) _ 0 _ τ = _
      unfold gX8_owesSo_12
      rw [z_e40, if_pos (nI_le (by omega) (by omega)), z_g z_and0]
  | succ d ih =>
    intro f j hj hf
    cases f with
    | zero => exact absurd hf (by omega)
    | succ f =>
      have u : ∀ K : Int32 → Int32 → Option Int32, gX8_owesSo_12 x1 x2 (nI r) (nI i) (nI n) K 0 (nI (40 * r + i + 2 * j)) τ = K 0 (nI (40 * r + i + 2 * (j + 1))) := by
        intro K
        unfold gX8_owesSo_12
        rw [z_e40, if_neg (nI_ge (by omega) (by omega)), if_pos rfl]
        exact congrArg (K 0) (nI_add (40 * r + i + 2 * j) 2)
      exact (u _).trans (ih f (j + 1) (by omega) (by omega))
theorem z_isStr {σ τ : x_S} {v : z_V} (h : z_T σ τ v) {s : Nat} (hs : s < v 1) : fX7_isStreet (nI s) σ = some 1 := by
  have h7 := h.1.2.1
  unfold fX7_isStreet
  rw [h.2.1.2.1, if_neg (nI_pos (by omega)), if_neg (nI_ge hs (by omega))]
theorem z_owes {σ τ : x_S} {v : z_V} (h : z_T σ τ v) {r i n : Nat} (hr : r < 8) (hn : n ≤ 12) (hin : i + 2 * n ≤ 40) (hrow : ∀ y, y < 40 → σ (3 + r) y = τ 5 (40 * r + y)) (hst : ∀ t, t < n → ∃ s, s < v 1 ∧ σ (3 + r) (i + 2 * t) = nI s) {kd inc : Nat} (hk : 1 ≤ kd ∧ kd ≤ 5) (hi : inc ≤ 31) : ∃ b, (b = 0 ∨ b = 1) ∧ fX7_owesAlong (nI kd) (nI inc) (nI r) (nI i) (nI n) σ = some b ∧ fX8_owesSo (nI kd) (nI inc) (nI r) (nI i) (nI n) τ = some b := by
  have h7 := h.1.2.1
  have key : ∀ d f j, j + d = n → d < f → ∃ b, (b = 0 ∨ b = 1) ∧ x_fx (α := Int32 → Option Int32) (fun _ => none) (fun K => fun x6 => gX7_owesAlong_3 (nI kd) (nI inc) (nI r) (nI i) (nI n) K x6 σ) f (nI j) = some b ∧ x_fx (α := Int32 → Int32 → Option Int32) (fun _ _ => none) (fun K => fun x6 x7 => gX8_owesSo_12 (nI kd) (nI inc) (nI r) (nI i) (nI n) K x6 x7 τ) f 1 (nI (40 * r + i + 2 * j)) = some b := by
    intro d
    induction d with
    | zero =>
      intro f j hj hf
      cases f with
      | zero => exact absurd hf (by omega)
      | succ f =>
        refine ⟨1, Or.inr rfl, ?_, ?_⟩
        · show gX7_owesAlong_3 (nI kd) (nI inc) (nI r) (nI i) (nI n) _ (nI j) σ = _
          unfold gX7_owesAlong_3
          rw [if_pos (nI_le (by omega) (by omega))]
        · show gX8_owesSo_12 (nI kd) (nI inc) (nI r) (nI i) (nI n) _ 1 _ τ = _
          unfold gX8_owesSo_12
          rw [z_e40, if_pos (nI_le (by omega) (by omega)), z_g z_and1]
    | succ d ih =>
      intro f j hj hf
      cases f with
      | zero => exact absurd hf (by omega)
      | succ f =>
        obtain ⟨s, hs, es⟩ := hst j (by omega)
        have q1 : fX7_isStreet (nI s) σ = some 1 := z_isStr h hs
        have hm : τ 5 (40 * r + i + 2 * j) = nI s := by rw [← es, hrow _ (by omega)]; congr 1; omega
        have hm2 : τ 5 (40 * r + i + 2 * j + 1) = σ (3 + r) (i + 2 * j + 1) := by rw [hrow _ (by omega)]; congr 1; omega
        have uS : ∀ K : Int32 → Option Int32, gX7_owesAlong_3 (nI kd) (nI inc) (nI r) (nI i) (nI n) K (nI j) σ = if nI (z_O v kd inc s) = σ (3 + r) (i + 2 * j + 1) then K (nI (j + 1)) else some 0 := by
          intro K
          unfold gX7_owesAlong_3
          rw [if_neg (nI_ge (by omega) (by omega)), z_e2, nI_add, nI_1, nI_1, z_at hr (by omega), z_at hr (by omega), z_p, z_p, es, q1, z_p, if_neg z_10, z_SO h.2.1 h.1 hs hk hi, z_p]
        have uM : ∀ K : Int32 → Int32 → Option Int32, gX8_owesSo_12 (nI kd) (nI inc) (nI r) (nI i) (nI n) K 1 (nI (40 * r + i + 2 * j)) τ = if nI (z_O v kd inc s) = σ (3 + r) (i + 2 * j + 1) then K 1 (nI (40 * r + i + 2 * (j + 1))) else K 0 (nI (40 * r + i + 2 * (j + 1))) := by
          intro K
          have e2 : nI (40 * r + i + 2 * j) + 2 = nI (40 * r + i + 2 * (j + 1)) := nI_add (40 * r + i + 2 * j) 2
          have c1 : (nI (40 * r + i + 2 * j)).toNatClampNeg = 40 * r + i + 2 * j := z_cl (by omega)
          have c2 : (nI (40 * r + i + 2 * j + 1)).toNatClampNeg = 40 * r + i + 2 * j + 1 := z_cl (by omega)
          have cc : (nI (z_O v kd inc s) = τ 5 (nI (40 * r + i + 2 * j + 1)).toNatClampNeg) ↔ (nI (z_O v kd inc s) = σ (3 + r) (i + 2 * j + 1)) := by rw [c2, hm2]
          unfold gX8_owesSo_12
          rw [z_e40, if_neg (nI_ge (by omega) (by omega)), if_neg z_10, e2, nI_1, z_gi (n := 320) (by omega) (by decide), c1, hm, z_MO h.2.2 h.1 hs hk hi, z_p, z_gi (n := 320) (by omega) (by decide)]
          by_cases c : nI (z_O v kd inc s) = σ (3 + r) (i + 2 * j + 1)
          · rw [if_pos (cc.mpr c), if_pos c]
          · rw [if_neg (fun z => c (cc.mp z)), if_neg c]
        by_cases c : nI (z_O v kd inc s) = σ (3 + r) (i + 2 * j + 1)
        · obtain ⟨b, hb, g1, g2⟩ := ih f (j + 1) (by omega) (by omega)
          exact ⟨b, hb, ((uS _).trans (if_pos c)).trans g1, ((uM _).trans (if_pos c)).trans g2⟩
        · exact ⟨0, Or.inl rfl, (uS _).trans (if_neg c), ((uM _).trans (if_neg c)).trans (z_ow0 (nI kd) (nI inc) hr hin d f (j + 1) (by omega) (by omega))⟩
  obtain ⟨b, hb, g1, g2⟩ := key n x_F 0 (by omega) (z_fuel (by omega))
  refine ⟨b, hb, g1, ?_⟩
  unfold fX8_owesSo bX8_owesSo_12
  rw [show (40 : Int32) * nI r + nI i = nI (40 * r + i + 2 * 0) by rw [show (40 : Int32) = nI 40 from rfl, pk_mul, nI_add]; rfl]
  exact g2
theorem z_sn0 {τ : x_S} (x1 : Int32) {r i n : Nat} (hr : r < 8) (hin : i + 2 * n ≤ 40) : ∀ d f j, j + d = n → d < f → x_fx (α := Int32 → Int32 → Option Int32) (fun _ _ => none) (fun K => fun x5 x6 => gX8_isSeenSo_11 x1 (nI r) (nI i) (nI n) K x5 x6 τ) f 0 (nI (40 * r + i + 2 * j)) = some 0 := by
  intro d
  induction d with
  | zero =>
    intro f j hj hf
    cases f with
    | zero => exact absurd hf (by omega)
    | succ f =>
      show gX8_isSeenSo_11 x1 (nI r) (nI i) (nI n) _ 0 _ τ = _
      unfold gX8_isSeenSo_11
      rw [z_e40, if_pos (nI_le (by omega) (by omega)), z_g z_and0]
  | succ d ih =>
    intro f j hj hf
    cases f with
    | zero => exact absurd hf (by omega)
    | succ f =>
      have u : ∀ K : Int32 → Int32 → Option Int32, gX8_isSeenSo_11 x1 (nI r) (nI i) (nI n) K 0 (nI (40 * r + i + 2 * j)) τ = K 0 (nI (40 * r + i + 2 * (j + 1))) := by
        intro K
        unfold gX8_isSeenSo_11
        rw [z_e40, if_neg (nI_ge (by omega) (by omega)), if_pos rfl]
        exact congrArg (K 0) (nI_add (40 * r + i + 2 * j) 2)
      exact (u _).trans (ih f (j + 1) (by omega) (by omega))
theorem z_sees {σ τ : x_S} {v : z_V} (h : z_T σ τ v) {r i n : Nat} (hr : r < 8) (hn : n ≤ 12) (hin : i + 2 * n ≤ 40) (hrow : ∀ y, y < 40 → σ (3 + r) y = τ 5 (40 * r + y)) (hst : ∀ t, t < n → ∃ s, s < v 1 ∧ σ (3 + r) (i + 2 * t) = nI s) {g : Nat} (hg : g < v 2) : ∃ b, (b = 0 ∨ b = 1) ∧ fX7_isSeenAlong (nI g) (nI r) (nI i) (nI n) σ = some b ∧ fX8_isSeenSo (nI g) (nI r) (nI i) (nI n) τ = some b := by
  have h7 := h.1.2.1
  have key : ∀ d f j, j + d = n → d < f → ∃ b, (b = 0 ∨ b = 1) ∧ x_fx (α := Int32 → Option Int32) (fun _ => none) (fun K => fun x5 => gX7_isSeenAlong_3 (nI g) (nI r) (nI i) (nI n) K x5 σ) f (nI j) = some b ∧ x_fx (α := Int32 → Int32 → Option Int32) (fun _ _ => none) (fun K => fun x5 x6 => gX8_isSeenSo_11 (nI g) (nI r) (nI i) (nI n) K x5 x6 τ) f 1 (nI (40 * r + i + 2 * j)) = some b := by
    intro d
    induction d with
    | zero =>
      intro f j hj hf
      cases f with
      | zero => exact absurd hf (by omega)
      | succ f =>
        refine ⟨1, Or.inr rfl, ?_, ?_⟩
        · show gX7_isSeenAlong_3 (nI g) (nI r) (nI i) (nI n) _ (nI j) σ = _
          unfold gX7_isSeenAlong_3
          rw [if_pos (nI_le (by omega) (by omega))]
        · show gX8_isSeenSo_11 (nI g) (nI r) (nI i) (nI n) _ 1 _ τ = _
          unfold gX8_isSeenSo_11
          rw [z_e40, if_pos (nI_le (by omega) (by omega)), z_g z_and1]
    | succ d ih =>
      intro f j hj hf
      cases f with
      | zero => exact absurd hf (by omega)
      | succ f =>
        obtain ⟨s, hs, es⟩ := hst j (by omega)
        have q1 : fX7_isStreet (nI s) σ = some 1 := z_isStr h hs
        have hm : τ 5 (40 * r + i + 2 * j) = nI s := by rw [← es, hrow _ (by omega)]; congr 1; omega
        have uS : ∀ K : Int32 → Option Int32, gX7_isSeenAlong_3 (nI g) (nI r) (nI i) (nI n) K (nI j) σ = if z_B (z_seen v g s) = 0 then some 0 else K (nI (j + 1)) := by
          intro K
          unfold gX7_isSeenAlong_3
          rw [if_neg (nI_ge (by omega) (by omega)), z_e2, nI_add, nI_1, z_at hr (by omega), z_p, es, q1, z_p, if_neg z_10, z_Sseen h.2.1 h.1 hg hs, z_p]
        have uM : ∀ K : Int32 → Int32 → Option Int32, gX8_isSeenSo_11 (nI g) (nI r) (nI i) (nI n) K 1 (nI (40 * r + i + 2 * j)) τ = if z_B (z_seen v g s) = 0 then K 0 (nI (40 * r + i + 2 * (j + 1))) else K 1 (nI (40 * r + i + 2 * (j + 1))) := by
          intro K
          have e2 : nI (40 * r + i + 2 * j) + 2 = nI (40 * r + i + 2 * (j + 1)) := nI_add (40 * r + i + 2 * j) 2
          have c1 : (nI (40 * r + i + 2 * j)).toNatClampNeg = 40 * r + i + 2 * j := z_cl (by omega)
          unfold gX8_isSeenSo_11
          rw [z_e40, if_neg (nI_ge (by omega) (by omega)), if_neg z_10, e2, z_gi (n := 320) (by omega) (by decide), c1, hm, z_Mseen h.2.2 h.1 hg hs, z_p]
        by_cases c : z_B (z_seen v g s) = 0
        · exact ⟨0, Or.inl rfl, (uS _).trans (if_pos c), ((uM _).trans (if_pos c)).trans (z_sn0 (nI g) hr hin d f (j + 1) (by omega) (by omega))⟩
        · obtain ⟨b, hb, g1, g2⟩ := ih f (j + 1) (by omega) (by omega)
          exact ⟨b, hb, ((uS _).trans (if_neg c)).trans g1, ((uM _).trans (if_neg c)).trans g2⟩
  obtain ⟨b, hb, g1, g2⟩ := key n x_F 0 (by omega) (z_fuel (by omega))
  refine ⟨b, hb, g1, ?_⟩
  unfold fX8_isSeenSo bX8_isSeenSo_11
  rw [show (40 : Int32) * nI r + nI i = nI (40 * r + i + 2 * 0) by rw [show (40 : Int32) = nI 40 from rfl, pk_mul, nI_add]; rfl]
  exact g2
