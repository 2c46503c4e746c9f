/-! ===== pure: ask ===== -/
/-- σ, τ are σ0, τ0 but for the trace, that has n numbers -/
def z_Q (σ0 τ0 : x_S) (n : Nat) (σ τ : x_S) : Prop := (∀ c, c ≠ 30 → c ≠ 31 → σ c = σ0 c) ∧ (∀ c, c ≠ 0 → c ≠ 7 → τ c = τ0 c) ∧ (∀ j, j ≠ 12 → τ 0 j = τ0 0 j) ∧ σ 30 1 = nI n ∧ τ 0 12 = nI n ∧ ∀ i, i < n → σ 31 i = τ 7 i
def z_an (σ0 τ0 : x_S) (N : Nat) (x y : Option (Int32 × x_S)) : Prop := ∃ m r σ' τ', x = some (r, σ') ∧ y = some (r, τ') ∧ m ≤ N ∧ z_Q σ0 τ0 m σ' τ'
theorem z_lv {σ0 τ0 σ τ : x_S} {n : Nat} (h : z_Q σ0 τ0 n σ τ) (hn : n < 16) (a : Int32) : ∃ σ' τ', fX1_leave a σ = some σ' ∧ fX8_begin a τ = some τ' ∧ z_Q σ0 τ0 (n + 1) σ' τ' := by
  obtain ⟨h1, h2, h3, h4, h5, h6⟩ := h
  have cc : ¬ 16 ≤ nI n := fun z => by have := (z_geL (a := n) (y := (16 : Int32)) 16 rfl (by omega) (by decide)).mp z; omega
  have w1 : x_u σ 31 n a 30 1 = nI n := (congrFun (z_uk (by decide)) 1).trans h4
  have w2 : x_u τ 7 n a 0 12 = nI n := (congrFun (z_uk (by decide)) 12).trans h5
  refine ⟨x_u (x_u σ 31 n a) 30 1 (nI (n + 1)), x_u (x_u τ 7 n a) 0 12 (nI (n + 1)), ?_, ?_, fun c g1 g2 => ?_, fun c g1 g2 => ?_, fun j hj => ?_, z_us _ _ _ _, z_us _ _ _ _, fun i hi => ?_⟩
  · unfold fX1_leave
    rw [h4, if_neg cc, z_gi hn (by decide), z_w, z_cl (by omega), w1, nI_1, z_w]
  · unfold fX8_begin
    rw [h5, if_neg cc, z_gi hn (by decide), z_w, z_cl (by omega), w2, nI_1, z_w]
  · rw [z_uk g1, z_uk g2]; exact h1 c g1 g2
  · rw [z_uk g1, z_uk g2]; exact h2 c g1 g2
  · rw [z_ui hj, z_uk (by decide)]; exact h3 j hj
  · rw [z_uk (k := 30) (by decide), z_uk (k := 0) (by decide)]
    by_cases e : i = n
    · subst e; rw [z_us, z_us]
    · rw [z_ui e, z_ui e]; exact h6 i (by omega)
theorem z_d16 {d : Nat} (h : d < 16) : nI d < 16 := (z_ltL (y := (16 : Int32)) 16 rfl (by omega) (by decide)).mpr h
/-- a body by its number -/
theorem z_xb {X : Option (Int32 × x_S)} : x_b X (fun r s => some (r, s)) = X := by
  rcases X with _ | ⟨r, s⟩ <;> rfl
theorem z_gv {σ σ' : x_S} {d : Nat} {b g : Int32} (f : Nat) (hd : d < 16) (l1 : fX1_leave b σ = some σ') : fX1_given_n (f + 1) b 32 g (nI d) σ = if 20 ≤ b then fX1_markBy (fX1_given_n f) b 32 g (nI (d + 1)) σ' else fX1_sizeBy (fX1_given_n f) b 32 g (nI (d + 1)) σ' := by
  show hX1_given (fX1_given_n f) b 32 g (nI d) σ = _
  unfold hX1_given
  rw [if_pos (z_d16 hd), l1, z_v, z_xb, z_xb, nI_1]
section
variable {σ0 τ0 : x_S} {v : z_V} {g : Nat}
theorem z_b10 (ht : z_T σ0 τ0 v) (hg : g < v 2) {σ τ : x_S} {n d : Nat} (h : z_Q σ0 τ0 n σ τ) (hn : n < 16) (hd : d < 16) (f : Nat) : z_an σ0 τ0 (n + 1) (fX1_given_n (f + 1) 10 32 (nI g) (nI d) σ) (fX8_lentSize (nI g) τ) := by
  have h6 := ht.1.2.2.1
  obtain ⟨σ', τ', l1, l2, q⟩ := z_lv h hn 10
  have e1 : σ' 38 g = nI (v (37 + g)) := (congrFun (q.1 38 (by decide) (by decide)) g).trans (ht.2.1.2.2.2.2.2.2 g hg).2.2.2.1
  have e2 : τ' 1 (37 + g) = nI (v (37 + g)) := by
    have := (ht.2.2.2.2.2.2.2.2 g hg).2.2.2.1
    rw [Nat.zero_add] at this
    exact (congrFun (q.2.1 1 (by decide) (by decide)) _).trans this
  refine ⟨n + 1, nI (v (37 + g)), σ', τ', ?_, ?_, Nat.le_refl _, q⟩
  · rw [show fX1_given_n (f + 1) 10 32 (nI g) (nI d) σ = _ from z_gv f (by omega) l1, if_neg (by decide)]
    unfold fX1_sizeBy
    rw [if_pos rfl, z_gi (n := 6) (by omega) (by decide), z_cl (by omega), e1]
  · unfold fX8_lentSize
    rw [l2, z_v, show (37 : Int32) + nI g = nI (37 + g) from nI_add 37 g, z_gi (n := 1372) (by omega) (by decide), z_cl (by omega), e2]
theorem z_b20 {σ τ : x_S} {n d : Nat} (h : z_Q σ0 τ0 n σ τ) (hn : n < 16) (hd : d < 16) (f : Nat) : z_an σ0 τ0 (n + 1) (fX1_given_n (f + 1) 20 32 (nI g) (nI d) σ) (fX8_lentMark (nI g) τ) := by
  obtain ⟨σ', τ', l1, l2, q⟩ := z_lv h hn 20
  refine ⟨n + 1, nI g, σ', τ', ?_, ?_, Nat.le_refl _, q⟩
  · rw [show fX1_given_n (f + 1) 20 32 (nI g) (nI d) σ = _ from z_gv f (by omega) l1, if_pos (by decide)]
    unfold fX1_markBy
    rw [if_pos rfl]
  · unfold fX8_lentMark
    rw [l2, z_v]
theorem z_b21 (ht : z_T σ0 τ0 v) (hg : g < v 2) {σ τ : x_S} {n d : Nat} (h : z_Q σ0 τ0 n σ τ) (hn : n + 1 < 16) (hd : d + 1 < 16) (f : Nat) : z_an σ0 τ0 (n + 2) (fX1_given_n (f + 2) 21 32 (nI g) (nI d) σ) (fX8_wavesMark (nI g) τ) := by
  have h6 := ht.1.2.2.1
  obtain ⟨σ', τ', l1, l2, q⟩ := z_lv h (by omega) 21
  obtain ⟨m, r, σ2, τ2, g1, g2, hm, q2⟩ := z_b20 (g := g) q (d := d + 1) (by omega) hd f
  have e1 : σ2 36 g = nI (v (25 + g)) := (congrFun (q2.1 36 (by decide) (by decide)) g).trans (ht.2.1.2.2.2.2.2.2 g hg).2.1
  have e2 : τ2 1 (25 + g) = nI (v (25 + g)) := by
    have := (ht.2.2.2.2.2.2.2.2 g hg).2.1
    rw [Nat.zero_add] at this
    exact (congrFun (q2.2.1 1 (by decide) (by decide)) _).trans this
  refine ⟨m, r + nI (v (25 + g)), σ2, τ2, ?_, ?_, by omega, q2⟩
  · rw [show fX1_given_n (f + 2) 21 32 (nI g) (nI d) σ = _ from z_gv (f + 1) (by omega) l1, if_pos (by decide)]
    unfold fX1_markBy
    rw [if_neg (by decide), if_pos rfl, g1, z_b, z_gi (n := 6) (by omega) (by decide), z_cl (by omega), e1]
  · unfold fX8_wavesMark
    rw [l2, z_v, g2, z_b, show (25 : Int32) + nI g = nI (25 + g) from nI_add 25 g, z_gi (n := 1372) (by omega) (by decide), z_cl (by omega), e2]
theorem z_bodies : ∀ kd, kd < 6 → 1 ≤ kd → fX1_bodyFor 1 (nI kd) (fun _ _ => 0) = some (if kd = 1 then 11 else if kd = 2 then 12 else if kd = 3 then 11 else if kd = 4 then 13 else 14) ∧ fX1_bodyFor 2 (nI kd) (fun _ _ => 0) = some (if kd = 1 then 21 else if kd = 2 then 24 else if kd = 3 then 22 else 23) := by decide +kernel
/-- asked for the mark, of a wave -/
theorem z_mk (ht : z_T σ0 τ0 v) (hg : g < v 2) (hk3 : v (19 + g) ≤ 3) {σ τ : x_S} {n d : Nat} (h : z_Q σ0 τ0 n σ τ) (hn : n + 2 < 16) (hd : d + 2 < 16) (f : Nat) : z_an σ0 τ0 (n + 3) (fX1_asked (fX1_given_n (f + 3)) 32 (nI g) 1 (nI d) σ) (fX8_mark (nI g) τ) := by
  have h6 := ht.1.2.2.1
  obtain ⟨⟨k1, k5⟩, -⟩ := ht.1.2.2.2.2.2.2 g hg
  have e1 : σ 35 g = nI (v (19 + g)) := (congrFun (h.1 35 (by decide) (by decide)) g).trans (ht.2.1.2.2.2.2.2.2 g hg).1
  have e2 : τ 1 (19 + g) = nI (v (19 + g)) := by
    have := (ht.2.2.2.2.2.2.2.2 g hg).1
    rw [Nat.zero_add] at this
    exact (congrFun (h.2.1 1 (by decide) (by decide)) _).trans this
  have hb : fX1_bodyFor 2 (nI (v (19 + g))) σ = some (if v (19 + g) = 1 then 21 else if v (19 + g) = 2 then 24 else if v (19 + g) = 3 then 22 else 23) := (z_bodies (v (19 + g)) (by omega) k1).2
  have cg : (nI (19 + g)).toNatClampNeg = 19 + g := z_cl (by omega)
  unfold z_an fX1_asked bX1_asked_13 fX8_mark
  rw [if_neg z_10, z_gi (n := 6) (by omega) (by decide), z_cl (by omega), e1, hb, z_p, show (19 : Int32) + nI g = nI (19 + g) from nI_add 19 g, z_gi (n := 1372) (by omega) (by decide)]
  have key2 : ∀ k : Nat, k < 6 → ((τ 1 (nI (19 + g)).toNatClampNeg = nI k) ↔ v (19 + g) = k) := fun k hk => by rw [cg, e2]; exact nI_eq (by omega) (by omega)
  have cA : (τ 1 (nI (19 + g)).toNatClampNeg = 2) ↔ v (19 + g) = 2 := key2 2 (by omega)
  have cB : (τ 1 (nI (19 + g)).toNatClampNeg = 3) ↔ v (19 + g) = 3 := key2 3 (by omega)
  rcases (show v (19 + g) = 1 ∨ v (19 + g) = 2 ∨ v (19 + g) = 3 by omega) with e | e | e
  · obtain ⟨m, r, σ2, τ2, g1, g2, hm, q2⟩ := z_b21 ht hg h (d := d) (by omega) (by omega) (f + 1)
    refine ⟨m, r, σ2, τ2, ?_, ?_, by omega, q2⟩
    · rw [if_pos e, g1, z_b]
    · rw [if_neg (fun z => by have := cA.mp z; omega), if_neg (fun z => by have := cB.mp z; omega), g2, z_b]
  · obtain ⟨σ', τ', l1, l2, q⟩ := z_lv h (by omega) 24
    obtain ⟨m, r, σ2, τ2, g1, g2, hm, q2⟩ := z_b21 ht hg q (d := d + 1) (by omega) (by omega) f
    have s1 : fX1_given_n (f + 3) 24 32 (nI g) (nI d) σ = some (2 * r, σ2) := by
      rw [show fX1_given_n (f + 3) 24 32 (nI g) (nI d) σ = _ from z_gv (f + 2) (by omega) l1, if_pos (by decide)]
      unfold fX1_markBy
      rw [if_neg (by decide), if_neg (by decide), if_neg (by decide), if_neg (by decide), if_pos rfl, g1, z_b]
    refine ⟨m, 2 * r, σ2, τ2, ?_, ?_, by omega, q2⟩
    · rw [if_neg (by omega), if_pos e, s1, z_b]
    · rw [if_pos (cA.mpr e), l2, z_v, g2, z_b]
  · obtain ⟨σ', τ', l1, l2, q⟩ := z_lv h (by omega) 22
    obtain ⟨m, r, σ2, τ2, g1, g2, hm, q2⟩ := z_b21 ht hg q (d := d + 1) (by omega) (by omega) f
    have s1 : fX1_given_n (f + 3) 22 32 (nI g) (nI d) σ = some (r - 1000, σ2) := by
      rw [show fX1_given_n (f + 3) 22 32 (nI g) (nI d) σ = _ from z_gv (f + 2) (by omega) l1, if_pos (by decide)]
      unfold fX1_markBy
      rw [if_neg (by decide), if_neg (by decide), if_pos rfl, g1, z_b]
    refine ⟨m, r - 1000, σ2, τ2, ?_, ?_, by omega, q2⟩
    · rw [if_neg (by omega), if_neg (by omega), if_pos e, s1, z_b]
    · rw [if_neg (fun z => by have := cA.mp z; omega), if_pos (cB.mpr e), l2, z_v, g2, z_b]
end
