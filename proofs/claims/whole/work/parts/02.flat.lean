/-! ===== THE FLAT WORLD: N cells at addresses ad k; what is in cell k is C (σ k) k; σ : cell, slot ↦ int ===== -/
abbrev x_S : Type := Nat → Nat → Int32
/-- row k of σ is f -/
def x_r (σ : x_S) (k : Nat) (f : Nat → Int32) : x_S := fun a => if a = k then f else σ a
/-- slot i of row k of σ is v -/
def x_u (σ : x_S) (k i : Nat) (v : Int32) : x_S := x_r σ k (upd (σ k) i v)
abbrev x_C : Type := (Nat → Int32) → Nat → va_E
def x_l (N : Nat) (C : x_C) (ad : Nat → Nat) (σ : x_S) : va_W := (List.range N).map (fun k => (ad k, C (σ k) k))
theorem x_l_at {N : Nat} (C : x_C) (ad : Nat → Nat) (σ : x_S) {k : Nat} (hk : k < N) : (x_l N C ad σ)[k]? = some (ad k, C (σ k) k) := by
  simp [x_l, hk]
theorem x_l_in {N : Nat} {C : x_C} {ad : Nat → Nat} {σ : x_S} {k : Nat} {q : Nat × va_E} (h : (x_l N C ad σ)[k]? = some q) : k < N ∧ q = (ad k, C (σ k) k) := by
  have hl : k < (x_l N C ad σ).length := (List.getElem?_eq_some_iff.mp h).1
  have hk : k < N := by simpa [x_l] using hl
  rw [x_l_at C ad σ hk] at h
  exact ⟨hk, (Option.some.inj h).symm⟩
theorem x_l_set {N : Nat} (C : x_C) (ad : Nat → Nat) (σ : x_S) {k : Nat} (hk : k < N) (f : Nat → Int32) : (x_l N C ad σ).set k (ad k, C f k) = x_l N C ad (x_r σ k f) := by
  apply List.ext_getElem?
  intro i
  by_cases hi : i = k
  · subst hi
    have hl : i < (x_l N C ad σ).length := by simpa [x_l] using hk
    rw [List.getElem?_set_self hl, x_l_at _ _ _ hk]
    simp [x_r]
  · rw [List.getElem?_set_ne (Ne.symm hi)]
    by_cases hN : i < N
    · rw [x_l_at _ _ _ hN, x_l_at _ _ _ hN]
      simp [x_r, hi]
    · rw [List.getElem?_eq_none (by simp [x_l]; omega), List.getElem?_eq_none (by simp [x_l]; omega)]
/-- the cells' addresses -/
def x_A (N : Nat) (ad : Nat → Nat) : Nat → Prop := fun q => ∃ k, k < N ∧ q = ad k
def x_I (D : va_G) (cl : List vw_C) (N : Nat) (C : x_C) (ad : Nat → Nat) (σ : x_S) : Heap → Prop := fun H => va_P D cl (x_l N C ad σ) H
def x_dis (N : Nat) (ad : Nat → Nat) : Prop := ∀ i j, i < N → j < N → ad i = ad j → i = j
theorem x_D {N : Nat} {C : x_C} {ad : Nat → Nat} {A : Nat → Prop} (h : x_dis N ad) (hA : ∀ k, k < N → A (ad k)) (σ : x_S) : va_D A (x_l N C ad σ) := by
  refine ⟨fun i j p q hi hj hpq => ?_, fun k q hk => ?_⟩
  · obtain ⟨h1, rfl⟩ := x_l_in hi
    obtain ⟨h2, rfl⟩ := x_l_in hj
    exact h i j h1 h2 hpq
  · obtain ⟨h1, rfl⟩ := x_l_in hk
    exact hA k h1
theorem x_A_in {N : Nat} {ad : Nat → Nat} : ∀ k, k < N → x_A N ad (ad k) := fun k h => ⟨k, h, rfl⟩
/-- what is said of statics: it stays while nothing outside A is written -/
abbrev x_St : Type := (Nat → Prop) → State → Heap → Prop
def x_StOk (St : x_St) : Prop := (∀ (A : Nat → Prop) (u U : State) (H : Heap), u.vm.Alike U.vm → St A u H → St A U H) ∧ (∀ (A : Nat → Prop) (U : State) (H H1 : Heap), (∀ a : Nat, a < H.size → ¬ A a → H1[a]? = H[a]?) → St A U H → St A U H1) ∧ (∀ (A B : Nat → Prop) (U : State) (H : Heap), (∀ q, B q → A q) → St A U H → St B U H)
/-- a method's start -/
def x_Pre (D : va_G) (cl : List vw_C) (tys : List (ClassId × FieldType)) (N : Nat) (C : x_C) (ad : Nat → Nat) (St : x_St) (σ : x_S) : State → Prop := fun U => x_I D cl N C ad σ U.heap ∧ va_K D cl tys U ∧ St (x_A N ad) U U.heap
def x_Post (D : va_G) (cl : List vw_C) (N : Nat) (C : x_C) (ad : Nat → Nat) : x_S → State → Prop := fun u t => x_I D cl N C ad u t.heap
abbrev x_Qi (D : va_G) (cl : List vw_C) (N : Nat) (C : x_C) (ad : Nat → Nat) (r0 : Int32) (σ0 : x_S) : Array Value → State → Outcome → State → Prop := va_Qi (fun (r : Int32) (u : x_S) => r = r0 ∧ u = σ0) (x_Post D cl N C ad) (x_A N ad)
abbrev x_Qv (D : va_G) (cl : List vw_C) (N : Nat) (C : x_C) (ad : Nat → Nat) (σ0 : x_S) : Array Value → State → Outcome → State → Prop := va_Qv (fun (u : x_S) => u = σ0) (x_Post D cl N C ad) (x_A N ad)
/-- room for calls n deep -/
def x_rm (n : Nat) : Room := { frames := n, cells := 0, slots := 0, locals := 100 * n }
theorem x_rm_ok {k n maxL : Nat} (h : k < n) (hm : maxL ≤ 81) : (x_rm k).frames + 1 ≤ (x_rm n).frames ∧ 8 + (maxL + 11) + (x_rm k).locals ≤ (x_rm n).locals := by
  simp only [x_rm]
  omega
abbrev x_MI (l : Launch) (y : MethodName) (ws : List Cond) (n : Nat) (D : va_G) (cl : List vw_C) (tys : List (ClassId × FieldType)) (N : Nat) (C : x_C) (ad : Nat → Nat) (St : x_St) (vs : List Value) (σ : x_S) (r0 : Int32) (σ0 : x_S) : Prop := Met l y ws (x_rm n) (va_Pc vs (x_Pre D cl tys N C ad St σ)) (x_Qi D cl N C ad r0 σ0) 0 0 (x_A N ad)
abbrev x_MV (l : Launch) (y : MethodName) (ws : List Cond) (n : Nat) (D : va_G) (cl : List vw_C) (tys : List (ClassId × FieldType)) (N : Nat) (C : x_C) (ad : Nat → Nat) (St : x_St) (vs : List Value) (σ : x_S) (σ0 : x_S) : Prop := Met l y ws (x_rm n) (va_Pc vs (x_Pre D cl tys N C ad St σ)) (x_Qv D cl N C ad σ0) 0 0 (x_A N ad)
theorem x_blind (vs : List Value) {D : va_G} {cl : List vw_C} {tys : List (ClassId × FieldType)} {N : Nat} {C : x_C} {ad : Nat → Nat} {St : x_St} (hSt : x_StOk St) (σ : x_S) : FrameBlind (va_Pc vs (x_Pre D cl tys N C ad St σ)) := by
  intro a U g mk q
  obtain ⟨q0, qP, qK, qS⟩ := q
  exact ⟨q0, qP, va_K.moved (u := U) (U := U.calling g mk a) (Vm.Alike.refl U.vm) qK, hSt.1 _ U (U.calling g mk a) _ (Vm.Alike.refl U.vm) qS⟩
/-! ===== partial functions ===== -/
/-- c must hold -/
def x_g {β : Type} (c : Prop) [Decidable c] (x : Option β) : Option β := if c then x else none
theorem x_gs {β : Type} {c : Prop} [Decidable c] {x : Option β} {y : β} (h : x_g c x = some y) : c ∧ x = some y := by
  unfold x_g at h
  split at h
  · exact ⟨by assumption, h⟩
  · cases h
def x_p {β : Type} (o : Option Int32) (k : Int32 → Option β) : Option β := match o with
  | some r => k r
  | none => none
theorem x_ps {β : Type} {o : Option Int32} {k : Int32 → Option β} {y : β} (h : x_p o k = some y) : ∃ r, o = some r ∧ k r = some y := by
  cases o with
  | none => cases h
  | some r => exact ⟨r, rfl, h⟩
def x_b {β : Type} (o : Option (Int32 × x_S)) (k : Int32 → x_S → Option β) : Option β := match o with
  | some (r, u) => k r u
  | none => none
theorem x_bs {β : Type} {o : Option (Int32 × x_S)} {k : Int32 → x_S → Option β} {y : β} (h : x_b o k = some y) : ∃ r u, o = some (r, u) ∧ k r u = some y := by
  match o, h with
  | some (r, u), h => exact ⟨r, u, rfl, h⟩
def x_v {β : Type} (o : Option x_S) (k : x_S → Option β) : Option β := match o with
  | some u => k u
  | none => none
theorem x_vs {β : Type} {o : Option x_S} {k : x_S → Option β} {y : β} (h : x_v o k = some y) : ∃ u, o = some u ∧ k u = some y := by
  cases o with
  | none => cases h
  | some r => exact ⟨r, rfl, h⟩
theorem x_it {β : Type} {c : Prop} [Decidable c] {a b : Option β} {y : β} (h : c) (hf : (if c then a else b) = some y) : a = some y := by rwa [if_pos h] at hf
theorem x_if {β : Type} {c : Prop} [Decidable c] {a b : Option β} {y : β} (h : ¬ c) (hf : (if c then a else b) = some y) : b = some y := by rwa [if_neg h] at hf
theorem x_retI {a r : Int32} {b u : x_S} (h : some (a, b) = some (r, u)) : r = a ∧ u = b := by cases h; exact ⟨rfl, rfl⟩
theorem x_retP {a r : Int32} (h : some a = some r) : r = a := by cases h; rfl
theorem x_retV {b u : x_S} (h : some b = some u) : u = b := by cases h; rfl
/-- n rounds of a loop, then z -/
def x_fx {α : Type} (z : α) (b : α → α) : Nat → α
  | 0 => z
  | n + 1 => b (x_fx z b n)
/-- rounds enough for any loop here -/
def x_F : Nat := 4096
