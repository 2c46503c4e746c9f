/-! ===== pure: thread, inches, sorts: the answers ===== -/
theorem z_or0 (a : Int32) : a ||| 0 = a := Int32.or_zero
/-- thread -/
theorem o_thread {σ τ : x_S} (h : z_Rel σ τ) (a1 a2 a3 : Int32) : z_op (fX7_thread a1 a2 a3 σ) (fX8_thread a1 a2 a3 τ) z_Rel := by
  obtain ⟨v, n0, p, V, ht, hst, -⟩ := h.2.2.2.2.1
  have h6 := ht.1.2.2.1
  unfold z_op fX7_thread fX8_thread
  rcases hst with ⟨g1, g2⟩ | ⟨g1, g2, -⟩
  · rw [if_neg (by rw [g1]; decide), if_neg (by rw [g2]; decide)]
    rcases z_refuse h ht a1 a2 a3 with ⟨k, σ', τ', k0, e1, e2, hR⟩ | ⟨r, i, n, hr, hn1, hn, hin, rfl, rfl, rfl, hstr, e1, e2⟩
    · rw [e1, z_b, if_neg k0]
      exact ⟨k, σ', τ', rfl, e2 (fun σ => bX8_thread_55 a1 a2 a3 0 0 σ), hR⟩
    · rw [e1, z_b, if_pos rfl]
      have hrow := (h.2.1 r hr).2.2
      have hn2 : τ 1 2 = nI (v 2) := ht.2.2.2.2.1
      have key : ∀ d f g a, g + d = v 2 → d < f → ∃ w, x_fx (α := Int32 → Int32 → x_S → Option (Int32 × x_S)) (fun _ _ _ => none) (fun K => fun x5 x6 σ => gX7_thread_36 (nI r) (nI i) (nI n) K x5 x6 σ) f a (nI g) σ = some (w, x_u σ 0 8 0) ∧ x_fx (α := Int32 → Int32 → x_S → Option (Int32 × x_S)) (fun _ _ _ => none) (fun K => fun x5 x6 σ => gX8_thread_55 (nI r) (nI i) (nI n) K x5 x6 σ) f a (nI g) τ = some (w, x_u τ 0 10 0) := by
        intro d
        induction d with
        | zero =>
          intro f g a hg hf
          cases f with
          | zero => exact absurd hf (by omega)
          | succ f =>
            refine ⟨a, ?_, ?_⟩
            · show gX7_thread_36 (nI r) (nI i) (nI n) _ a (nI g) σ = _
              unfold gX7_thread_36
              rw [ht.2.1.2.2.1, if_pos (nI_le (by omega) (by omega)), z_fno, z_b]
            · show gX8_thread_55 (nI r) (nI i) (nI n) _ a (nI g) τ = _
              unfold gX8_thread_55
              rw [z_c2, hn2, if_pos (nI_le (by omega) (by omega)), z_well, z_b]
        | succ d ih =>
          intro f g a hg hf
          cases f with
          | zero => exact absurd hf (by omega)
          | succ f =>
            have hg2 : g < v 2 := by omega
            obtain ⟨hk, hi, -, -⟩ := ht.1.2.2.2.2.2.2 g hg2
            obtain ⟨f1, f2, -⟩ := ht.2.1.2.2.2.2.2.2 g hg2
            have f1 : σ 35 g = nI (v (19 + g)) := f1
            have f2 : σ 36 g = nI (v (25 + g)) := f2
            obtain ⟨m1, m2, -⟩ := ht.2.2.2.2.2.2.2.2 g hg2
            rw [Nat.zero_add] at m1 m2
            obtain ⟨b1, hb1, o1, o2⟩ := z_owes ht hr hn hin hrow hstr hk (inc := v (25 + g)) (by omega)
            obtain ⟨b2, hb2, s1, s2⟩ := z_sees ht hr hn hin hrow hstr hg2
            have uS : ∀ K : Int32 → Int32 → x_S → Option (Int32 × x_S), gX7_thread_36 (nI r) (nI i) (nI n) K a (nI g) σ = if b1 = 0 then K a (nI (g + 1)) σ else if b2 = 0 then K a (nI (g + 1)) σ else K (a ||| (1 <<< (nI g &&& 31))) (nI (g + 1)) σ := by
              intro K
              unfold gX7_thread_36
              rw [ht.2.1.2.2.1, if_neg (nI_ge hg2 (by omega)), z_gi (n := 6) (by omega) (by decide), z_gi (n := 6) (by omega) (by decide), z_cl (by omega), f1, f2, o1, z_p, s1, z_p, nI_1]
            have uM : ∀ K : Int32 → Int32 → x_S → Option (Int32 × x_S), gX8_thread_55 (nI r) (nI i) (nI n) K a (nI g) τ = if b2 = 0 then K a (nI (g + 1)) τ else if b1 = 0 then K a (nI (g + 1)) τ else K (a ||| (1 <<< (nI g &&& 31))) (nI (g + 1)) τ := by
              intro K
              unfold gX8_thread_55
              rw [z_c2, hn2, if_neg (nI_ge hg2 (by omega)), s2, z_p, show (19 : Int32) + nI g = nI (19 + g) from nI_add 19 g, show (25 : Int32) + nI g = nI (25 + g) from nI_add 25 g, z_gi (n := 1372) (by omega) (by decide), z_gi (n := 1372) (by omega) (by decide), z_cl (by omega), z_cl (by omega), m1, m2, o2, z_p, nI_1, z_or0]
            rcases hb1 with rfl | rfl
            · obtain ⟨w, w1, w2⟩ := ih f (g + 1) a (by omega) (by omega)
              refine ⟨w, ((uS _).trans (if_pos rfl)).trans w1, (uM _).trans ?_⟩
              rcases hb2 with rfl | rfl
              · rw [if_pos rfl]; exact w2
              · rw [if_neg z_10, if_pos rfl]; exact w2
            · rcases hb2 with rfl | rfl
              · obtain ⟨w, w1, w2⟩ := ih f (g + 1) a (by omega) (by omega)
                exact ⟨w, ((uS _).trans ((if_neg z_10).trans (if_pos rfl))).trans w1, ((uM _).trans (if_pos rfl)).trans w2⟩
              · obtain ⟨w, w1, w2⟩ := ih f (g + 1) (a ||| (1 <<< (nI g &&& 31))) (by omega) (by omega)
                exact ⟨w, ((uS _).trans ((if_neg z_10).trans (if_neg z_10))).trans w1, ((uM _).trans ((if_neg z_10).trans (if_neg z_10))).trans w2⟩
      obtain ⟨w, w1, w2⟩ := key (v 2) x_F 0 0 (by omega) (z_fuel (by omega))
      exact ⟨w, _, _, w1, (e2 (fun σ => bX8_thread_55 (nI r) (nI i) (nI n) 0 0 σ)).trans w2, z_Rel_st h 0⟩
  · rw [if_pos g1, if_pos g2]; exact ⟨_, _, _, rfl, rfl, h⟩
/-- inches -/
theorem o_inches {σ τ : x_S} (h : z_Rel σ τ) (a1 a2 a3 a4 : Int32) : z_op (fX7_inches a1 a2 a3 a4 σ) (fX8_inches a1 a2 a3 a4 τ) z_Rel := by
  obtain ⟨v, n0, p, V, ht, -⟩ := h.2.2.2.2.1
  have h6 := ht.1.2.2.1
  unfold z_op fX7_inches fX8_inches
  rcases ht.ges a1 with ⟨h1, h2⟩ | ⟨g, hg, rfl, h1, h2⟩
  · rw [h1, h2, z_p, z_p, if_pos rfl, if_pos rfl]
    unfold bX7_inches_21
    rw [if_neg (by decide)]
    exact ⟨_, _, _, rfl, rfl, h⟩
  · rw [h1, h2, z_p, z_p, if_neg z_10, if_neg z_10]
    rcases z_refuse h ht a2 a3 a4 with ⟨k, σ', τ', k0, e1, e2, hR⟩ | ⟨r, i, n, hr, hn1, hn, hin, rfl, rfl, rfl, hstr, e1, e2⟩
    · rw [e1, z_b]
      unfold bX7_inches_21
      rw [if_neg k0]
      exact ⟨k, σ', τ', rfl, e2 (fun σ => bX8_inches_55 (nI g) a2 a3 a4 0 0 σ), hR⟩
    · rw [e1, z_b]
      unfold bX7_inches_21
      rw [if_pos rfl]
      have hrow := (h.2.1 r hr).2.2
      obtain ⟨hk, hi, -, -⟩ := ht.1.2.2.2.2.2.2 g hg
      obtain ⟨f1, f2, -⟩ := ht.2.1.2.2.2.2.2.2 g hg
      have f1 : σ 35 g = nI (v (19 + g)) := f1
      have f2 : σ 36 g = nI (v (25 + g)) := f2
      obtain ⟨m1, m2, -⟩ := ht.2.2.2.2.2.2.2.2 g hg
      rw [Nat.zero_add] at m1 m2
      have key : ∀ d f j a, j + d = 30 → 0 ≤ j → d < f → ∃ w, x_fx (α := Int32 → Int32 → x_S → Option (Int32 × x_S)) (fun _ _ _ => none) (fun K => fun x6 x7 σ => gX7_inches_37 (nI g) (nI r) (nI i) (nI n) K x6 x7 σ) f a (nI (j + 1)) σ = some (w, x_u σ 0 8 0) ∧ x_fx (α := Int32 → Int32 → x_S → Option (Int32 × x_S)) (fun _ _ _ => none) (fun K => fun x6 x7 σ => gX8_inches_55 (nI g) (nI r) (nI i) (nI n) K x6 x7 σ) f a (nI j) τ = some (w, x_u τ 0 10 0) := by
        intro d
        induction d with
        | zero =>
          intro f j a hj hj1 hf
          cases f with
          | zero => exact absurd hf (by omega)
          | succ f =>
            have ej : j = 30 := by omega
            subst ej
            refine ⟨a, ?_, ?_⟩
            · show gX7_inches_37 (nI g) (nI r) (nI i) (nI n) _ a _ σ = _
              unfold gX7_inches_37
              rw [if_pos (by decide), z_fno, z_b]
            · show gX8_inches_55 (nI g) (nI r) (nI i) (nI n) _ a _ τ = _
              unfold gX8_inches_55
              rw [if_pos (by decide), z_well, z_b]
        | succ d ih =>
          intro f j a hj hj1 hf
          cases f with
          | zero => exact absurd hf (by omega)
          | succ f =>
            obtain ⟨b1, hb1, o1, o2⟩ := z_owes ht hr hn hin hrow hstr hk (inc := j + 1) (by omega)
            have ej : nI (j + 1) - 1 = nI j := pk_sub (a := j + 1) (b := 1) (by omega)
            have uS : ∀ K : Int32 → Int32 → x_S → Option (Int32 × x_S), gX7_inches_37 (nI g) (nI r) (nI i) (nI n) K a (nI (j + 1)) σ = if b1 = 0 then K a (nI (j + 1 + 1)) σ else K (a ||| (1 <<< (nI j &&& 31))) (nI (j + 1 + 1)) σ := by
              intro K
              unfold gX7_inches_37
              rw [if_neg (fun z => by have := (z_gtL (a := j + 1) (y := (30 : Int32)) 30 rfl (by omega) (by decide)).mp z; omega), z_gi (n := 6) (by omega) (by decide), z_cl (by omega), f1, o1, z_p, ej, nI_1]
            have uM : ∀ K : Int32 → Int32 → x_S → Option (Int32 × x_S), gX8_inches_55 (nI g) (nI r) (nI i) (nI n) K a (nI j) τ = if b1 = 0 then K a (nI (j + 1)) τ else K (a ||| (1 <<< (nI j &&& 31))) (nI (j + 1)) τ := by
              intro K
              unfold gX8_inches_55
              rw [if_neg (fun z => by have := (z_geL (a := j) (y := (30 : Int32)) 30 rfl (by omega) (by decide)).mp z; omega), show (19 : Int32) + nI g = nI (19 + g) from nI_add 19 g, z_gi (n := 1372) (by omega) (by decide), z_cl (by omega), m1, nI_1, o2, z_p, z_or0]
            rcases hb1 with rfl | rfl
            · obtain ⟨w, w1, w2⟩ := ih f (j + 1) a (by omega) (by omega) (by omega)
              exact ⟨w, ((uS _).trans (if_pos rfl)).trans w1, ((uM _).trans (if_pos rfl)).trans w2⟩
            · obtain ⟨w, w1, w2⟩ := ih f (j + 1) (a ||| (1 <<< (nI j &&& 31))) (by omega) (by omega) (by omega)
              exact ⟨w, ((uS _).trans (if_neg z_10)).trans w1, ((uM _).trans (if_neg z_10)).trans w2⟩
      obtain ⟨w, w1, w2⟩ := key (30 - 0) x_F 0 0 (by omega) (by omega) (z_fuel (by omega))
      exact ⟨w, _, _, w1, (e2 (fun σ => bX8_inches_55 (nI g) (nI r) (nI i) (nI n) 0 0 σ)).trans w2, z_Rel_st h 0⟩
/-- sorts -/
theorem o_sorts {σ τ : x_S} (h : z_Rel σ τ) (a1 a2 a3 a4 : Int32) : z_op (fX7_sorts a1 a2 a3 a4 σ) (fX8_sorts a1 a2 a3 a4 τ) z_Rel := by
  obtain ⟨v, n0, p, V, ht, -⟩ := h.2.2.2.2.1
  have h6 := ht.1.2.2.1
  unfold z_op fX7_sorts fX8_sorts
  rcases ht.ges a1 with ⟨h1, h2⟩ | ⟨g, hg, rfl, h1, h2⟩
  · rw [h1, h2, z_p, z_p, if_pos rfl, if_pos rfl]
    unfold bX7_sorts_21
    rw [if_neg (by decide)]
    exact ⟨_, _, _, rfl, rfl, h⟩
  · rw [h1, h2, z_p, z_p, if_neg z_10, if_neg z_10]
    rcases z_refuse h ht a2 a3 a4 with ⟨k, σ', τ', k0, e1, e2, hR⟩ | ⟨r, i, n, hr, hn1, hn, hin, rfl, rfl, rfl, hstr, e1, e2⟩
    · rw [e1, z_b]
      unfold bX7_sorts_21
      rw [if_neg k0]
      exact ⟨k, σ', τ', rfl, e2 (fun σ => bX8_sorts_55 (nI g) a2 a3 a4 0 1 σ), hR⟩
    · rw [e1, z_b]
      unfold bX7_sorts_21
      rw [if_pos rfl]
      have hrow := (h.2.1 r hr).2.2
      obtain ⟨hk, hi, -, -⟩ := ht.1.2.2.2.2.2.2 g hg
      obtain ⟨f1, f2, -⟩ := ht.2.1.2.2.2.2.2.2 g hg
      have f1 : σ 35 g = nI (v (19 + g)) := f1
      have f2 : σ 36 g = nI (v (25 + g)) := f2
      obtain ⟨m1, m2, -⟩ := ht.2.2.2.2.2.2.2.2 g hg
      rw [Nat.zero_add] at m1 m2
      have key : ∀ d f j a, j + d = 6 → 1 ≤ j → d < f → ∃ w, x_fx (α := Int32 → Int32 → x_S → Option (Int32 × x_S)) (fun _ _ _ => none) (fun K => fun x6 x7 σ => gX7_sorts_37 (nI g) (nI r) (nI i) (nI n) K x6 x7 σ) f a (nI j) σ = some (w, x_u σ 0 8 0) ∧ x_fx (α := Int32 → Int32 → x_S → Option (Int32 × x_S)) (fun _ _ _ => none) (fun K => fun x6 x7 σ => gX8_sorts_55 (nI g) (nI r) (nI i) (nI n) K x6 x7 σ) f a (nI j) τ = some (w, x_u τ 0 10 0) := by
        intro d
        induction d with
        | zero =>
          intro f j a hj hj1 hf
          cases f with
          | zero => exact absurd hf (by omega)
          | succ f =>
            have ej : j = 6 := by omega
            subst ej
            refine ⟨a, ?_, ?_⟩
            · show gX7_sorts_37 (nI g) (nI r) (nI i) (nI n) _ a _ σ = _
              unfold gX7_sorts_37
              rw [if_pos (by decide), z_fno, z_b]
            · show gX8_sorts_55 (nI g) (nI r) (nI i) (nI n) _ a _ τ = _
              unfold gX8_sorts_55
              rw [if_pos (by decide), z_well, z_b]
        | succ d ih =>
          intro f j a hj hj1 hf
          cases f with
          | zero => exact absurd hf (by omega)
          | succ f =>
            obtain ⟨b1, hb1, o1, o2⟩ := z_owes ht hr hn hin hrow hstr (kd := j) (by omega) (inc := v (25 + g)) (by omega)
            have uS : ∀ K : Int32 → Int32 → x_S → Option (Int32 × x_S), gX7_sorts_37 (nI g) (nI r) (nI i) (nI n) K a (nI j) σ = if b1 = 0 then K a (nI (j + 1)) σ else K (a ||| (1 <<< (nI j &&& 31))) (nI (j + 1)) σ := by
              intro K
              unfold gX7_sorts_37
              rw [if_neg (fun z => by have := (z_gtL (a := j) (y := (5 : Int32)) 5 rfl (by omega) (by decide)).mp z; omega), z_gi (n := 6) (by omega) (by decide), z_cl (by omega), f2, o1, z_p, nI_1]
            have uM : ∀ K : Int32 → Int32 → x_S → Option (Int32 × x_S), gX8_sorts_55 (nI g) (nI r) (nI i) (nI n) K a (nI j) τ = if b1 = 0 then K a (nI (j + 1)) τ else K (a ||| (1 <<< (nI j &&& 31))) (nI (j + 1)) τ := by
              intro K
              unfold gX8_sorts_55
              rw [if_neg (fun z => by have := (z_geL (a := j) (y := (6 : Int32)) 6 rfl (by omega) (by decide)).mp z; omega), show (25 : Int32) + nI g = nI (25 + g) from nI_add 25 g, z_gi (n := 1372) (by omega) (by decide), z_cl (by omega), m2, o2, z_p, nI_1, z_or0]
            rcases hb1 with rfl | rfl
            · obtain ⟨w, w1, w2⟩ := ih f (j + 1) a (by omega) (by omega) (by omega)
              exact ⟨w, ((uS _).trans (if_pos rfl)).trans w1, ((uM _).trans (if_pos rfl)).trans w2⟩
            · obtain ⟨w, w1, w2⟩ := ih f (j + 1) (a ||| (1 <<< (nI j &&& 31))) (by omega) (by omega) (by omega)
              exact ⟨w, ((uS _).trans (if_neg z_10)).trans w1, ((uM _).trans (if_neg z_10)).trans w2⟩
      obtain ⟨w, w1, w2⟩ := key (6 - 1) x_F 1 0 (by omega) (by omega) (z_fuel (by omega))
      exact ⟨w, _, _, w1, (e2 (fun σ => bX8_sorts_55 (nI g) (nI r) (nI i) (nI n) 0 1 σ)).trans w2, z_Rel_st h 0⟩
