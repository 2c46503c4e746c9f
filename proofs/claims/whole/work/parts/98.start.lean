/-! ===== from the constructors to the flat worlds ===== -/
def n_adS (h0 : Nat) (u : Nat → Nat) : Nat → Nat := fun k => [h0, (u 0), (u 1), (u 1) + 1 + 0, (u 1) + 1 + 1, (u 1) + 1 + 2, (u 1) + 1 + 3, (u 1) + 1 + 4, (u 1) + 1 + 5, (u 1) + 1 + 6, (u 1) + 1 + 7, (u 2), (u 3), (u 4), (u 5), (u 22), (u 39), (u 40), (u 41), (u 42), (u 43), (u 44), (u 44) + 1 + 0, (u 44) + 1 + 1, (u 44) + 1 + 2, (u 44) + 1 + 3, (u 44) + 1 + 4, (u 44) + 1 + 5, (u 44) + 1 + 6, (u 44) + 1 + 7, (u 45), (u 46), (u 6), (u 7), (u 8), (u 9), (u 10), (u 11), (u 12), (u 13), (u 14), (u 15), (u 16), (u 17), (u 18), (u 19), (u 20), (u 21), (u 23), (u 24), (u 25), (u 26), (u 27), (u 28), (u 29), (u 30), (u 31), (u 32), (u 33), (u 34), (u 35), (u 36), (u 37), (u 38)].getD k 0
def n_pS : Nat → Nat := fun k =>  ([0, 1, 2, 3, 4, 5, 6, 7, 8, 9, 10, 11, 12, 13, 14, 31, 48, 49, 50, 51, 52, 53, 54, 55, 56, 57, 58, 59, 60, 61, 62, 63, 15, 16, 17, 18, 19, 20, 21, 22, 23, 24, 25, 26, 27, 28, 29, 30, 32, 33, 34, 35, 36, 37, 38, 39, 40, 41, 42, 43, 44, 45, 46, 47] : List Nat).getD k 0
def s_0 : x_S := fun k => if k = 11 then upd (upd (upd (upd (upd (upd (upd (upd (fun _ => 0) 0 (-1)) 1 (-1)) 2 (-1)) 3 (-1)) 4 (-1)) 5 (-1)) 6 (-1)) 7 (-1) else fun _ => 0
def n_adM (h0 : Nat) (u : Nat → Nat) : Nat → Nat := fun k => [h0, (u 0), (u 1), (u 2), (u 3), (u 4), (u 5), (u 6), (u 7)].getD k 0
def n_pM : Nat → Nat := fun k => ([0, 1, 2, 3, 4, 5, 6, 7, 8] : List Nat).getD k 0
def m_0 : x_S := fun k => if k = 4 then upd (upd (upd (upd (upd (upd (upd (upd (fun _ => 0) 0 (-1)) 1 (-1)) 2 (-1)) 3 (-1)) 4 (-1)) 5 (-1)) 6 (-1)) 7 (-1) else fun _ => 0
set_option maxRecDepth 100000 in
set_option maxHeartbeats 4000000 in
theorem n_toS {D : va_G} {cI cQ cC : ClassId} {h0 : Nat} {u : Nat → Nat} {H : Heap} (h : va_P D vwCl (n_wX7 cI cQ cC h0 u) H) : x_I D vwCl 64 (s_C cI cQ cC (n_adS h0 u)) (n_adS h0 u) s_0 H := by
  intro k q hq
  obtain ⟨hk, rfl⟩ := x_l_in hq
  have hk : k < 64 := hk
  clear hq
  rcases (show k = 0 ∨ k = 1 ∨ k = 2 ∨ k = 3 ∨ k = 4 ∨ k = 5 ∨ k = 6 ∨ k = 7 ∨ k = 8 ∨ k = 9 ∨ k = 10 ∨ k = 11 ∨ k = 12 ∨ k = 13 ∨ k = 14 ∨ k = 15 ∨ k = 16 ∨ k = 17 ∨ k = 18 ∨ k = 19 ∨ k = 20 ∨ k = 21 ∨ k = 22 ∨ k = 23 ∨ k = 24 ∨ k = 25 ∨ k = 26 ∨ k = 27 ∨ k = 28 ∨ k = 29 ∨ k = 30 ∨ k = 31 ∨ k = 32 ∨ k = 33 ∨ k = 34 ∨ k = 35 ∨ k = 36 ∨ k = 37 ∨ k = 38 ∨ k = 39 ∨ k = 40 ∨ k = 41 ∨ k = 42 ∨ k = 43 ∨ k = 44 ∨ k = 45 ∨ k = 46 ∨ k = 47 ∨ k = 48 ∨ k = 49 ∨ k = 50 ∨ k = 51 ∨ k = 52 ∨ k = 53 ∨ k = 54 ∨ k = 55 ∨ k = 56 ∨ k = 57 ∨ k = 58 ∨ k = 59 ∨ k = 60 ∨ k = 61 ∨ k = 62 ∨ k = 63 by omega) with rfl | rfl | rfl | rfl | rfl | rfl | rfl | rfl | rfl | rfl | rfl | rfl | rfl | rfl | rfl | rfl | rfl | rfl | rfl | rfl | rfl | rfl | rfl | rfl | rfl | rfl | rfl | rfl | rfl | rfl | rfl | rfl | rfl | rfl | rfl | rfl | rfl | rfl | rfl | rfl | rfl | rfl | rfl | rfl | rfl | rfl | rfl | rfl | rfl | rfl | rfl | rfl | rfl | rfl | rfl | rfl | rfl | rfl | rfl | rfl | rfl | rfl | rfl | rfl
  · exact h 0 _ rfl
  · exact h 1 _ rfl
  · have h1 : va_at D vwCl ((n_adS h0 u) 2, .inl (cQ, 8, .inr (.inr (.inr (.inr (fun j => some ((u 1) + 1 + j))))))) H := h 2 _ rfl
    have h2 : H[(n_adS h0 u) 2]? = some (vp_cell cQ (8, .inr (.inr (.inr (.inr (fun j => some ((u 1) + 1 + j))))))) := h1
    show H[(n_adS h0 u) 2]? = some (vp_cell cQ (8, .inr (.inr (.inr (.inr (fun j => some ((n_adS h0 u) (3 + j))))))))
    rw [h2]
    refine congrArg some (n_cellq (fun j hj => ?_))
    rcases (show j = 0 ∨ j = 1 ∨ j = 2 ∨ j = 3 ∨ j = 4 ∨ j = 5 ∨ j = 6 ∨ j = 7 by omega) with rfl | rfl | rfl | rfl | rfl | rfl | rfl | rfl <;> rfl
  · exact h 3 _ rfl
  · exact h 4 _ rfl
  · exact h 5 _ rfl
  · exact h 6 _ rfl
  · exact h 7 _ rfl
  · exact h 8 _ rfl
  · exact h 9 _ rfl
  · exact h 10 _ rfl
  · exact h 11 _ rfl
  · exact h 12 _ rfl
  · exact h 13 _ rfl
  · exact h 14 _ rfl
  · have h1 : va_at D vwCl ((n_adS h0 u) 15, .inl (cC, 2, .inr (.inr (.inr (.inr (va_up (va_up (fun _ => none) 0 (some (u 23))) 1 (some (u 31)))))))) H := h 31 _ rfl
    have h2 : H[(n_adS h0 u) 15]? = some (vp_cell cC (2, .inr (.inr (.inr (.inr (va_up (va_up (fun _ => none) 0 (some (u 23))) 1 (some (u 31)))))))) := h1
    show H[(n_adS h0 u) 15]? = some (vp_cell cC (2, .inr (.inr (.inr (.inr (fun j => some ((n_adS h0 u) (48 + 8 * j))))))))
    rw [h2]
    refine congrArg some (n_cellq (fun j hj => ?_))
    rcases (show j = 0 ∨ j = 1 by omega) with rfl | rfl <;> rfl
  · exact h 48 _ rfl
  · exact h 49 _ rfl
  · exact h 50 _ rfl
  · exact h 51 _ rfl
  · exact h 52 _ rfl
  · have h1 : va_at D vwCl ((n_adS h0 u) 21, .inl (cQ, 8, .inr (.inr (.inr (.inr (fun j => some ((u 44) + 1 + j))))))) H := h 53 _ rfl
    have h2 : H[(n_adS h0 u) 21]? = some (vp_cell cQ (8, .inr (.inr (.inr (.inr (fun j => some ((u 44) + 1 + j))))))) := h1
    show H[(n_adS h0 u) 21]? = some (vp_cell cQ (8, .inr (.inr (.inr (.inr (fun j => some ((n_adS h0 u) (22 + j))))))))
    rw [h2]
    refine congrArg some (n_cellq (fun j hj => ?_))
    rcases (show j = 0 ∨ j = 1 ∨ j = 2 ∨ j = 3 ∨ j = 4 ∨ j = 5 ∨ j = 6 ∨ j = 7 by omega) with rfl | rfl | rfl | rfl | rfl | rfl | rfl | rfl <;> rfl
  · exact h 54 _ rfl
  · exact h 55 _ rfl
  · exact h 56 _ rfl
  · exact h 57 _ rfl
  · exact h 58 _ rfl
  · exact h 59 _ rfl
  · exact h 60 _ rfl
  · exact h 61 _ rfl
  · exact h 62 _ rfl
  · exact h 63 _ rfl
  · exact h 15 _ rfl
  · exact h 16 _ rfl
  · exact h 17 _ rfl
  · exact h 18 _ rfl
  · exact h 19 _ rfl
  · exact h 20 _ rfl
  · exact h 21 _ rfl
  · exact h 22 _ rfl
  · exact h 23 _ rfl
  · exact h 24 _ rfl
  · exact h 25 _ rfl
  · exact h 26 _ rfl
  · exact h 27 _ rfl
  · exact h 28 _ rfl
  · exact h 29 _ rfl
  · exact h 30 _ rfl
  · exact h 32 _ rfl
  · exact h 33 _ rfl
  · exact h 34 _ rfl
  · exact h 35 _ rfl
  · exact h 36 _ rfl
  · exact h 37 _ rfl
  · exact h 38 _ rfl
  · exact h 39 _ rfl
  · exact h 40 _ rfl
  · exact h 41 _ rfl
  · exact h 42 _ rfl
  · exact h 43 _ rfl
  · exact h 44 _ rfl
  · exact h 45 _ rfl
  · exact h 46 _ rfl
  · exact h 47 _ rfl
set_option maxRecDepth 100000 in
set_option maxHeartbeats 4000000 in
theorem n_atS (cI cQ cC : ClassId) (h0 : Nat) (u : Nat → Nat) : ∀ k, k < 64 → ∃ e, (n_wX7 cI cQ cC h0 u)[n_pS k]? = some ((n_adS h0 u) k, e) := by
  intro k hk
  rcases (show k = 0 ∨ k = 1 ∨ k = 2 ∨ k = 3 ∨ k = 4 ∨ k = 5 ∨ k = 6 ∨ k = 7 ∨ k = 8 ∨ k = 9 ∨ k = 10 ∨ k = 11 ∨ k = 12 ∨ k = 13 ∨ k = 14 ∨ k = 15 ∨ k = 16 ∨ k = 17 ∨ k = 18 ∨ k = 19 ∨ k = 20 ∨ k = 21 ∨ k = 22 ∨ k = 23 ∨ k = 24 ∨ k = 25 ∨ k = 26 ∨ k = 27 ∨ k = 28 ∨ k = 29 ∨ k = 30 ∨ k = 31 ∨ k = 32 ∨ k = 33 ∨ k = 34 ∨ k = 35 ∨ k = 36 ∨ k = 37 ∨ k = 38 ∨ k = 39 ∨ k = 40 ∨ k = 41 ∨ k = 42 ∨ k = 43 ∨ k = 44 ∨ k = 45 ∨ k = 46 ∨ k = 47 ∨ k = 48 ∨ k = 49 ∨ k = 50 ∨ k = 51 ∨ k = 52 ∨ k = 53 ∨ k = 54 ∨ k = 55 ∨ k = 56 ∨ k = 57 ∨ k = 58 ∨ k = 59 ∨ k = 60 ∨ k = 61 ∨ k = 62 ∨ k = 63 by omega) with rfl | rfl | rfl | rfl | rfl | rfl | rfl | rfl | rfl | rfl | rfl | rfl | rfl | rfl | rfl | rfl | rfl | rfl | rfl | rfl | rfl | rfl | rfl | rfl | rfl | rfl | rfl | rfl | rfl | rfl | rfl | rfl | rfl | rfl | rfl | rfl | rfl | rfl | rfl | rfl | rfl | rfl | rfl | rfl | rfl | rfl | rfl | rfl | rfl | rfl | rfl | rfl | rfl | rfl | rfl | rfl | rfl | rfl | rfl | rfl | rfl | rfl | rfl | rfl <;> exact ⟨_, rfl⟩
theorem n_injS : ∀ i, i < 64 → ∀ j, j < 64 → n_pS i = n_pS j → i = j := by decide +kernel
theorem n_disS {cI cQ cC : ClassId} {A : Nat → Prop} {h0 : Nat} {u : Nat → Nat} (h : va_D A (n_wX7 cI cQ cC h0 u)) : x_dis 64 (n_adS h0 u) ∧ ∀ k, k < 64 → A ((n_adS h0 u) k) := by
  refine ⟨fun i j hi hj hij => ?_, fun k hk => ?_⟩
  · obtain ⟨e1, h1⟩ := n_atS cI cQ cC h0 u i hi
    obtain ⟨e2, h2⟩ := n_atS cI cQ cC h0 u j hj
    exact n_injS i hi j hj (h.1 _ _ _ _ h1 h2 hij)
  · obtain ⟨e1, h1⟩ := n_atS cI cQ cC h0 u k hk
    exact h.2 _ _ h1
set_option maxRecDepth 100000 in
set_option maxHeartbeats 4000000 in
theorem n_toM {D : va_G} {cI cZ : ClassId} {h0 : Nat} {u : Nat → Nat} {H : Heap} (h : va_P D vwCl (n_wX8 cI cZ h0 u) H) : x_I D vwCl 9 (m_C cI cZ (n_adM h0 u)) (n_adM h0 u) m_0 H := by
  intro k q hq
  obtain ⟨hk, rfl⟩ := x_l_in hq
  have hk : k < 9 := hk
  clear hq
  rcases (show k = 0 ∨ k = 1 ∨ k = 2 ∨ k = 3 ∨ k = 4 ∨ k = 5 ∨ k = 6 ∨ k = 7 ∨ k = 8 by omega) with rfl | rfl | rfl | rfl | rfl | rfl | rfl | rfl | rfl
  · exact h 0 _ rfl
  · exact h 1 _ rfl
  · exact h 2 _ rfl
  · exact h 3 _ rfl
  · exact h 4 _ rfl
  · exact h 5 _ rfl
  · exact h 6 _ rfl
  · exact h 7 _ rfl
  · exact h 8 _ rfl
set_option maxRecDepth 100000 in
set_option maxHeartbeats 4000000 in
theorem n_atM (cI cZ : ClassId) (h0 : Nat) (u : Nat → Nat) : ∀ k, k < 9 → ∃ e, (n_wX8 cI cZ h0 u)[n_pM k]? = some ((n_adM h0 u) k, e) := by
  intro k hk
  rcases (show k = 0 ∨ k = 1 ∨ k = 2 ∨ k = 3 ∨ k = 4 ∨ k = 5 ∨ k = 6 ∨ k = 7 ∨ k = 8 by omega) with rfl | rfl | rfl | rfl | rfl | rfl | rfl | rfl | rfl <;> exact ⟨_, rfl⟩
theorem n_injM : ∀ i, i < 9 → ∀ j, j < 9 → n_pM i = n_pM j → i = j := by decide +kernel
theorem n_disM {cI cZ : ClassId} {A : Nat → Prop} {h0 : Nat} {u : Nat → Nat} (h : va_D A (n_wX8 cI cZ h0 u)) : x_dis 9 (n_adM h0 u) ∧ ∀ k, k < 9 → A ((n_adM h0 u) k) := by
  refine ⟨fun i j hi hj hij => ?_, fun k hk => ?_⟩
  · obtain ⟨e1, h1⟩ := n_atM cI cZ h0 u i hi
    obtain ⟨e2, h2⟩ := n_atM cI cZ h0 u j hj
    exact n_injM i hi j hj (h.1 _ _ _ _ h1 h2 hij)
  · obtain ⟨e1, h1⟩ := n_atM cI cZ h0 u k hk
    exact h.2 _ _ h1
theorem n_appP {D : va_G} {cl : List vw_C} {w1 w2 : va_W} {H : Heap} (h : va_P D cl (w1 ++ w2) H) : va_P D cl w1 H ∧ va_P D cl w2 H := by
  refine ⟨fun k q hk => h k q ?_, fun k q hk => h (w1.length + k) q ?_⟩
  · rw [List.getElem?_append_left (List.getElem?_eq_some_iff.mp hk).1]; exact hk
  · rw [List.getElem?_append_right (by omega), Nat.add_sub_cancel_left]; exact hk
theorem n_appD {A : Nat → Prop} {w1 w2 : va_W} (h : va_D A (w1 ++ w2)) : va_D A w1 ∧ va_D A w2 ∧ ∀ (i j : Nat) (p q : Nat × va_E), w1[i]? = some p → w2[j]? = some q → p.1 ≠ q.1 := by
  have l1 : ∀ (k : Nat) (q : Nat × va_E), w1[k]? = some q → (w1 ++ w2)[k]? = some q := fun k q hk => by
    rw [List.getElem?_append_left (List.getElem?_eq_some_iff.mp hk).1]; exact hk
  have l2 : ∀ (k : Nat) (q : Nat × va_E), w2[k]? = some q → (w1 ++ w2)[w1.length + k]? = some q := fun k q hk => by
    rw [List.getElem?_append_right (by omega), Nat.add_sub_cancel_left]; exact hk
  refine ⟨⟨fun i j p q hi hj e => h.1 i j p q (l1 i p hi) (l1 j q hj) e, fun k q hk => h.2 k q (l1 k q hk)⟩, ⟨fun i j p q hi hj e => ?_, fun k q hk => h.2 _ q (l2 k q hk)⟩, fun i j p q hi hj e => ?_⟩
  · have := h.1 _ _ p q (l2 i p hi) (l2 j q hj) e
    omega
  · have := h.1 _ _ p q (l1 i p hi) (l2 j q hj) e
    have := (List.getElem?_eq_some_iff.mp hi).1
    omega
theorem n_arrT {s : State} {c : ClassId} {k : Class} {comp : ClassId} {ty : FieldType} (hk : s.vm.classes[c]? = some k) (hkind : k.kind = .array comp ty) : ArrOfT s c ty := fun n z => ⟨(fun q hq => by cases hq), k, hk, comp, hkind⟩
theorem n_tys {s : State} {args : Array Value} (hts : ∀ w ∈ lw_tbl, w.before args s = true) : ∃ cI cQ cC cZ : ClassId, ∀ (k : Nat) (q : ClassId × FieldType), (s_tys cI cQ cC cZ)[k]? = some q → ArrOfT s q.1 q.2 ∧ va_RA s q.1 q.2 := by
  obtain ⟨cI, kI, mI, i1, i2, i3⟩ := Cond.arrayClass_spec (hts (.arrayClass .int) (List.mem_of_getElem? (i := 105) (by decide +kernel)))
  obtain ⟨cZ, kZ, mZ, z1, z2, z3⟩ := Cond.arrayClass_spec (hts (.arrayClass .boolean) (List.mem_of_getElem? (i := 787) (by decide +kernel)))
  obtain ⟨mC, cC, kC, c1, -, c2, c3, c4⟩ := Cond.arrayOver_spec (hts (.arrayOver (.object "SignDuty$City")) (List.mem_of_getElem? (i := 211) (by decide +kernel)))
  obtain ⟨mQ, cQ, kQ, q1, -, q2, q3, q4⟩ := Jvm.Stand.arrayOver_specB (hts (.arrayOver (.array .int)) (List.mem_of_getElem? (i := 94) (by decide +kernel)))
  refine ⟨cI, cQ, cC, cZ, fun k q hq => ?_⟩
  match k, hq with
  | 0, hq => cases hq; exact ⟨n_arrT i2 i3, i1⟩
  | 1, hq => cases hq; exact ⟨n_arrT q2 q3, q4⟩
  | 2, hq => cases hq; exact ⟨n_arrT c2 c3, kC, mC, c2, c3, c1, c4⟩
  | 3, hq => cases hq; exact ⟨n_arrT z2 z3, z1⟩
  | k + 4, hq => simp [s_tys] at hq
theorem n_NWof {s : State} {args : Array Value} (hts : ∀ w ∈ lw_tbl, w.before args s = true) : n_NW s := by
  refine ⟨va_Nw.of rfl (hts (.methodLinkNest RX7 9 yX5_init "SignDuty") (List.mem_of_getElem? (i := 89) (by decide +kernel))), va_Nw.of rfl (hts (.methodLinkNest RX7 18 yX4_init "SignDuty") (List.mem_of_getElem? (i := 108) (by decide +kernel))), va_Nw.of rfl (hts (.methodLinkNest RX7 25 yX2_init "SignDuty") (List.mem_of_getElem? (i := 136) (by decide +kernel))), va_Nw.of rfl (hts (.methodLinkNest RX7 39 yX0_init "SignDuty") (List.mem_of_getElem? (i := 214) (by decide +kernel))), va_Nw.of rfl (hts (.methodLinkNest RX7 46 yX6_init "SignDuty") (List.mem_of_getElem? (i := 237) (by decide +kernel))), va_Nw.of rfl (hts (.methodLinkNest RX7 53 yX1_init "SignDuty") (List.mem_of_getElem? (i := 248) (by decide +kernel))), va_AO.of (hts (.arrayOver (.object "SignDuty$City")) (List.mem_of_getElem? (i := 211) (by decide +kernel))), (hts (.arrayOver (.array .int)) (List.mem_of_getElem? (i := 94) (by decide +kernel))), va_Nw.of rfl (hts (.methodLinkNest RX4 98 yX7_isWithin "SignDuty") (List.mem_of_getElem? (i := 405) (by decide +kernel)))⟩
theorem n_stat {s : State} {b : Addr} (hts : ∀ w ∈ lw_tbl, w.before #[Value.ref b] s = true) (hgv : (Jvm.Cond.and given_1 narrow_1).before #[Value.ref b] s = true) : ∃ aS : Nat → Nat, s_St aS (y_A s) s s.heap := by
  have hs := flat_of_before _ hgv
  have hA : ∀ a : Nat, a < s.heap.size → ¬ y_A s a := fun a h => Nat.not_le.mpr h
  obtain ⟨t0, et0, hT0⟩ := va_Tof (tm := (.static "SignDuty$Kinds" "WIDER" "[I")) (ty := .int) (N := 6) (f := fun j => .int (s_t 0 j)) (by decide) (hs (.arrayOf (.static "SignDuty$Kinds" "WIDER" "[I") .int) (by decide +kernel)) (va_eqt (hs (.eq (.length (.static "SignDuty$Kinds" "WIDER" "[I")) (.int 6)) (by decide +kernel))) (fun j hj => by
    rcases (show j = 0 ∨ j = 1 ∨ j = 2 ∨ j = 3 ∨ j = 4 ∨ j = 5 by omega) with rfl | rfl | rfl | rfl | rfl | rfl
    · exact va_eqt (hs (.eq (.elem (.static "SignDuty$Kinds" "WIDER" "[I") (.int 0)) (.int 0)) (by decide +kernel))
    · exact va_eqt (hs (.eq (.elem (.static "SignDuty$Kinds" "WIDER" "[I") (.int 1)) (.int 0)) (by decide +kernel))
    · exact va_eqt (hs (.eq (.elem (.static "SignDuty$Kinds" "WIDER" "[I") (.int 2)) (.int 1)) (by decide +kernel))
    · exact va_eqt (hs (.eq (.elem (.static "SignDuty$Kinds" "WIDER" "[I") (.int 3)) (.int 1)) (by decide +kernel))
    · exact va_eqt (hs (.eq (.elem (.static "SignDuty$Kinds" "WIDER" "[I") (.int 4)) (.int 0)) (by decide +kernel))
    · exact va_eqt (hs (.eq (.elem (.static "SignDuty$Kinds" "WIDER" "[I") (.int 5)) (.int 4)) (by decide +kernel))) hA
  have hZ0 := va_Zref (hts (.laysStatic "SignDuty$Kinds" "WIDER" "[I") (List.mem_of_getElem? (i := 662) (by decide +kernel))) (hts (.initialized "SignDuty$Kinds") (List.mem_of_getElem? (i := 76) (by decide +kernel))) et0 hA
  obtain ⟨t1, et1, hT1⟩ := va_Tof (tm := (.static "SignDuty$Asks" "SIZE_BODIES" "[I")) (ty := .int) (N := 6) (f := fun j => .int (s_t 1 j)) (by decide) (hs (.arrayOf (.static "SignDuty$Asks" "SIZE_BODIES" "[I") .int) (by decide +kernel)) (va_eqt (hs (.eq (.length (.static "SignDuty$Asks" "SIZE_BODIES" "[I")) (.int 6)) (by decide +kernel))) (fun j hj => by
    rcases (show j = 0 ∨ j = 1 ∨ j = 2 ∨ j = 3 ∨ j = 4 ∨ j = 5 by omega) with rfl | rfl | rfl | rfl | rfl | rfl
    · exact va_eqt (hs (.eq (.elem (.static "SignDuty$Asks" "SIZE_BODIES" "[I") (.int 0)) (.int 10)) (by decide +kernel))
    · exact va_eqt (hs (.eq (.elem (.static "SignDuty$Asks" "SIZE_BODIES" "[I") (.int 1)) (.int 11)) (by decide +kernel))
    · exact va_eqt (hs (.eq (.elem (.static "SignDuty$Asks" "SIZE_BODIES" "[I") (.int 2)) (.int 12)) (by decide +kernel))
    · exact va_eqt (hs (.eq (.elem (.static "SignDuty$Asks" "SIZE_BODIES" "[I") (.int 3)) (.int 0)) (by decide +kernel))
    · exact va_eqt (hs (.eq (.elem (.static "SignDuty$Asks" "SIZE_BODIES" "[I") (.int 4)) (.int 13)) (by decide +kernel))
    · exact va_eqt (hs (.eq (.elem (.static "SignDuty$Asks" "SIZE_BODIES" "[I") (.int 5)) (.int 14)) (by decide +kernel))) hA
  have hZ1 := va_Zref (hts (.laysStatic "SignDuty$Asks" "SIZE_BODIES" "[I") (List.mem_of_getElem? (i := 679) (by decide +kernel))) (hts (.initialized "SignDuty$Asks") (List.mem_of_getElem? (i := 73) (by decide +kernel))) et1 hA
  obtain ⟨t2, et2, hT2⟩ := va_Tof (tm := (.static "SignDuty$Asks" "MARK_BODIES" "[I")) (ty := .int) (N := 6) (f := fun j => .int (s_t 2 j)) (by decide) (hs (.arrayOf (.static "SignDuty$Asks" "MARK_BODIES" "[I") .int) (by decide +kernel)) (va_eqt (hs (.eq (.length (.static "SignDuty$Asks" "MARK_BODIES" "[I")) (.int 6)) (by decide +kernel))) (fun j hj => by
    rcases (show j = 0 ∨ j = 1 ∨ j = 2 ∨ j = 3 ∨ j = 4 ∨ j = 5 by omega) with rfl | rfl | rfl | rfl | rfl | rfl
    · exact va_eqt (hs (.eq (.elem (.static "SignDuty$Asks" "MARK_BODIES" "[I") (.int 0)) (.int 20)) (by decide +kernel))
    · exact va_eqt (hs (.eq (.elem (.static "SignDuty$Asks" "MARK_BODIES" "[I") (.int 1)) (.int 21)) (by decide +kernel))
    · exact va_eqt (hs (.eq (.elem (.static "SignDuty$Asks" "MARK_BODIES" "[I") (.int 2)) (.int 24)) (by decide +kernel))
    · exact va_eqt (hs (.eq (.elem (.static "SignDuty$Asks" "MARK_BODIES" "[I") (.int 3)) (.int 22)) (by decide +kernel))
    · exact va_eqt (hs (.eq (.elem (.static "SignDuty$Asks" "MARK_BODIES" "[I") (.int 4)) (.int 23)) (by decide +kernel))
    · exact va_eqt (hs (.eq (.elem (.static "SignDuty$Asks" "MARK_BODIES" "[I") (.int 5)) (.int 0)) (by decide +kernel))) hA
  have hZ2 := va_Zref (hts (.laysStatic "SignDuty$Asks" "MARK_BODIES" "[I") (List.mem_of_getElem? (i := 681) (by decide +kernel))) (hts (.initialized "SignDuty$Asks") (List.mem_of_getElem? (i := 73) (by decide +kernel))) et2 hA
  refine ⟨fun k => if k = 0 then t0 else if k = 1 then t1 else t2, hZ0, hZ1, hZ2, fun k hk => ?_⟩
  rcases (show k = 0 ∨ k = 1 ∨ k = 2 by omega) with rfl | rfl | rfl
  · exact hT0
  · exact hT1
  · exact hT2
theorem n_D {s : State} {args : Array Value} (hts : ∀ w ∈ lw_tbl, w.before args s = true) : ∃ D : va_G, ∀ (k : Nat) (q : vw_C), vwCl[k]? = some q → u_Kn s q.1 q.2.1 q.2.2 (D.1 k) (D.2 k) := by
  obtain ⟨c0, i0, h0⟩ := u_known (C := RX0) (T := TX0) (N := 5) (n := 5) hts inX0 (hts (.instantiable RX0 5) (List.mem_of_getElem? (i := 213) (by decide +kernel)))
  obtain ⟨c1, i1, h1⟩ := u_known (C := RX1) (T := TX1) (N := 2) (n := 2) hts inX1 (hts (.instantiable RX1 2) (List.mem_of_getElem? (i := 247) (by decide +kernel)))
  obtain ⟨c2, i2, h2⟩ := u_known (C := RX2) (T := TX2) (N := 13) (n := 13) hts inX2 (hts (.instantiable RX2 13) (List.mem_of_getElem? (i := 135) (by decide +kernel)))
  obtain ⟨c3, i3, h3⟩ := u_known (C := RX4) (T := TX4) (N := 6) (n := 6) hts inX4 (hts (.instantiable RX4 6) (List.mem_of_getElem? (i := 107) (by decide +kernel)))
  obtain ⟨c4, i4, h4⟩ := u_known (C := RX5) (T := TX5) (N := 3) (n := 3) hts inX5 (hts (.instantiable RX5 3) (List.mem_of_getElem? (i := 88) (by decide +kernel)))
  obtain ⟨c5, i5, h5⟩ := u_known (C := RX6) (T := TX6) (N := 1) (n := 1) hts inX6 (hts (.instantiable RX6 1) (List.mem_of_getElem? (i := 236) (by decide +kernel)))
  obtain ⟨c6, i6, h6⟩ := u_known (C := RX7) (T := TX7) (N := 9) (n := 9) hts inX7 (hts (.instantiable RX7 9) (List.mem_of_getElem? (i := 80) (by decide +kernel)))
  obtain ⟨c7, i7, h7⟩ := u_known (C := RX8) (T := TX8) (N := 17) (n := 17) hts inX8 (hts (.instantiable RX8 17) (List.mem_of_getElem? (i := 730) (by decide +kernel)))
  refine ⟨(fun k => if k = 0 then c0 else if k = 1 then c1 else if k = 2 then c2 else if k = 3 then c3 else if k = 4 then c4 else if k = 5 then c5 else if k = 6 then c6 else c7, fun k => if k = 0 then i0 else if k = 1 then i1 else if k = 2 then i2 else if k = 3 then i3 else if k = 4 then i4 else if k = 5 then i5 else if k = 6 then i6 else i7), fun k q hq => ?_⟩
  match k, hq with
  | 0, hq => cases hq; exact h0
  | 1, hq => cases hq; exact h1
  | 2, hq => cases hq; exact h2
  | 3, hq => cases hq; exact h3
  | 4, hq => cases hq; exact h4
  | 5, hq => cases hq; exact h5
  | 6, hq => cases hq; exact h6
  | 7, hq => cases hq; exact h7
  | k + 8, hq => simp [vwCl] at hq
set_option maxRecDepth 100000 in
set_option maxHeartbeats 4000000 in
/-- from the law's entry to its loop -/
theorem y_start {p : Program} {e : Env} {s : State} {m : MethodId} {below : List Frame} {meth : Method} {c : Code} (l : Launch) {b L : Nat} {xs : Nat → Int32} (hL : L ≤ 448) (C0 : lw_At p s m meth c b L xs) (Rel : x_S → x_S → Prop) (hR0 : Rel s_0 m_0) (hop : ∀ σ τ, Rel σ τ → ∀ k, k < 32 → ∀ a1 a2 a3 a4 a5 a6 : Int32, ∃ r σ' τ', y_S k a1 a2 a3 a4 a5 a6 σ = some (r, σ') ∧ y_M k a1 a2 a3 a4 a5 a6 τ = some (r, τ') ∧ Rel σ' τ') : W p l e room_1 s m #[Value.ref b] below meth c s.heap [] 0 0 (lw_Z below #[Value.ref b] s) (entryFrame m ([Value.ref b] : List Value).toArray 4) := by
  obtain ⟨hx, hb, hr, hml, hown, hts, hX, hbl, hlocks, hgv⟩ := C0
  obtain ⟨D, hKc⟩ := n_D hts
  obtain ⟨cI, cQ, cC, cZ, hKt⟩ := n_tys hts
  have hNW := n_NWof hts
  obtain ⟨aS, hSt⟩ := n_stat hts hgv
  have hK : va_K D vwCl (s_tys cI cQ cC cZ) s := ⟨hKc, hKt⟩
  have B : x_B p s m #[Value.ref b] meth c code 4 wsL_law RL := ⟨hx, hb, hml, hown, fun w h => hts w (wsL_law_in w h), hlocks⟩
  have hA : ∀ q, s.heap.size ≤ q → y_A s q := fun _ h => h
  have hD : va_D (y_A s) [] := ⟨fun i j p q h => by simp at h, fun k q h => by simp at h⟩
  have hl := lv_entry ([.ref b]) (n := 4) (Nat.le_of_ble_eq_true rfl)
  rw [lg_entry_eq]
  have key : x_J p l e room_1 s m #[Value.ref b] below meth c 0 0 (lw_Z below #[Value.ref b] s) (y_A s) 4 (n_P D vwCl []) [(0, .ref b)] [] 0 := by
    refine n_new (ci := 6) (fs := [.null, .null, .null, .null, .null, .null, .null, .null, .int 0]) (index := 7) B hK inlX7 tyX7 tyX7_ok (by decide +kernel : Cond.classLink RL 7 RX7 ∈ wsL_law) (by decide +kernel) (by decide +kernel) hA hD rfl (fun j hj => by rcases (show j = 0 ∨ j = 1 ∨ j = 2 ∨ j = 3 ∨ j = 4 ∨ j = 5 ∨ j = 6 ∨ j = 7 ∨ j = 8 by omega) with rfl | rfl | rfl | rfl | rfl | rfl | rfl | rfl | rfl <;> rfl) (Nat.le_of_ble_eq_true rfl) (Nat.le_of_ble_eq_true rfl) dL_law_0 (fun q0 hD => ?_)
    refine x_dup B dL_law_3 rfl ?_
    refine n_callI (nr := 0) (wr := []) (post := n_wX7 cI cQ cC q0) B hK hA ⟨n_NwOk, hNW⟩ (nX7_init (l := l)) (cwI 0 B.2.2.2.2.1 gL_law_X7_init rfl rfl rfl (B.2.2.2.2.1 _ (by decide +kernel)) (B.2.2.2.2.1 _ (by decide +kernel)) (B.2.2.2.2.1 _ (by decide +kernel)) rfl (by decide +kernel) ⟨Nat.le_of_ble_eq_true rfl, Nat.le_of_ble_eq_true rfl⟩) hD rfl rfl rfl (by decide) (Nat.le_of_ble_eq_true rfl) ⟨Nat.le_of_ble_eq_true rfl, Nat.le_of_ble_eq_true rfl⟩ dL_law_4 (fun u hD => ?_)
    refine x_astore_n (lv' := [(1, .ref q0), (0, .ref b)]) B dL_law_7 rfl (by decide) rfl ?_
    refine n_new (ci := 7) (fs := [.null, .int 0, .int 0, .null, .null, .null, .null, .null, .int 0, .int 0, .int 0, .null, .int 0, .int 0, .int 0, .int 0, .null]) (index := 10) B hK inlX8 tyX8 tyX8_ok (by decide +kernel : Cond.classLink RL 10 RX8 ∈ wsL_law) (by decide +kernel) (by decide +kernel) hA hD rfl (fun j hj => by rcases (show j = 0 ∨ j = 1 ∨ j = 2 ∨ j = 3 ∨ j = 4 ∨ j = 5 ∨ j = 6 ∨ j = 7 ∨ j = 8 ∨ j = 9 ∨ j = 10 ∨ j = 11 ∨ j = 12 ∨ j = 13 ∨ j = 14 ∨ j = 15 ∨ j = 16 by omega) with rfl | rfl | rfl | rfl | rfl | rfl | rfl | rfl | rfl | rfl | rfl | rfl | rfl | rfl | rfl | rfl | rfl <;> rfl) (Nat.le_of_ble_eq_true rfl) (Nat.le_of_ble_eq_true rfl) dL_law_8 (fun q1 hD => ?_)
    refine x_dup B dL_law_11 rfl ?_
    refine n_callI (nr := 64) (wr := [] ++ n_wX7 cI cQ cC q0 u) (post := n_wX8 cI cZ q1) B hK hA ⟨n_NwOk, hNW⟩ (nX8_init (l := l)) (cwI 0 B.2.2.2.2.1 gL_law_X8_init rfl rfl rfl (B.2.2.2.2.1 _ (by decide +kernel)) (B.2.2.2.2.1 _ (by decide +kernel)) (B.2.2.2.2.1 _ (by decide +kernel)) rfl (by decide +kernel) ⟨Nat.le_of_ble_eq_true rfl, Nat.le_of_ble_eq_true rfl⟩) hD rfl rfl rfl (by decide) (Nat.le_of_ble_eq_true rfl) ⟨Nat.le_of_ble_eq_true rfl, Nat.le_of_ble_eq_true rfl⟩ dL_law_12 (fun v hD => ?_)
    refine x_astore_n (lv' := [(2, .ref q1), (1, .ref q0), (0, .ref b)]) B dL_law_15 rfl (by decide) rfl ?_
    refine x_iconst (v := 0) B dL_law_16 (by decide) ?_
    refine x_istore_n (lv' := [(3, .int 0), (2, .ref q1), (1, .ref q0), (0, .ref b)]) B dL_law_17 rfl (by decide) rfl ?_
    obtain ⟨hDS, hDM, hDx⟩ := n_appD hD
    have hDS : va_D (y_A s) (n_wX7 cI cQ cC q0 u) := hDS
    obtain ⟨dS, aS1⟩ := n_disS hDS
    obtain ⟨dM, aM1⟩ := n_disM hDM
    have hdj : ∀ i j, i < s_N → j < m_N → (n_adS q0 u) i ≠ (n_adM q1 v) j := fun i j hi hj => by
      obtain ⟨e1, h1⟩ := n_atS cI cQ cC q0 u i hi
      obtain ⟨e2, h2⟩ := n_atM cI cZ q1 v j hj
      exact hDx _ _ _ _ h1 h2
    have X : y_X p s m meth c D cI cQ cC cZ (n_adS q0 u) aS (n_adM q1 v) b L xs 73 4279 := ⟨B, ⟨⟨hK, dS, aS1, s_StOk aS, hSt⟩, s_NwOk, hNW.2.2.2.2.2.2.2.2⟩, ⟨⟨hK, dM, aM1, m_StOk, trivial⟩, m_NwOk, trivial⟩, hdj, hX, hbl, hL, by decide, by decide, hr⟩
    have hloop := y_loop (l := l) (e := e) (below := below) X Rel hop (L + 8) 0 s_0 m_0 (by omega) (by omega) hR0
    intro H locs ls h1 h2 h3
    obtain ⟨hPS, hPM⟩ := n_appP h1
    have hPS : va_P D vwCl (n_wX7 cI cQ cC q0 u) H := hPS
    exact hloop H locs ls ⟨n_toS hPS, n_toM hPM⟩ h2 (lv_sub h3 [3, 2, 1, 0] rfl)
  exact key s.heap [] _ (fun k q h => by simp at h) va_S.rf hl
