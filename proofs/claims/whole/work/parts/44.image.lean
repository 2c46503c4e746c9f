/-! ===== pure: undo, image, restore ===== -/
theorem z_setf {A B : x_S} {c0 c1 i : Nat} (h : x_u A c0 i (A c1 i) = B) : (∀ c, c ≠ c0 → B c = A c) ∧ B c0 i = A c1 i ∧ ∀ j, j ≠ i → B c0 j = A c0 j := by
  subst h
  exact ⟨fun c hc => z_uk hc, z_us _ _ _ _, fun j hj => z_ui hj⟩
theorem z_setr {A B : x_S} {k k' n : Nat} (h : x_r A k (va_cpy (A k') (A k) (0 : Int32).toNatClampNeg (0 : Int32).toNatClampNeg n) = B) : (∀ c, c ≠ k → B c = A c) ∧ ∀ j, j < n → B k j = A k' j := by
  subst h
  refine ⟨fun c hc => by rw [z_r, if_neg hc], fun j hj => ?_⟩
  rw [z_r, if_pos rfl, z_c0, pk_cpy_in (by omega) (by omega)]
  congr 1
  omega
theorem z_become {σ : x_S} {c0 c1 : Nat} {v : z_V} (hc : c0 + 8 ≤ c1 ∨ c1 + 8 ≤ c0) (hS : z_S σ c1 v) (hk : σ c1 0 = 0 ∨ σ c1 0 = 1) (hv1 : v 1 ≤ 7) (hv2 : v 2 ≤ 6) : ∃ σ', fX2_become c0 c1 σ = some σ' ∧ (∀ c, (c < c0 ∨ c0 + 8 ≤ c) → σ' c = σ c) ∧ z_S σ' c0 v ∧ σ' c0 0 = σ c1 0 := by
  have g7 : ¬ (0 : Int32) < 0 ∧ ¬ (0 : Int32) < 0 ∧ ¬ (7 : Int32) < 0 ∧ (0 : Int32).toNatClampNeg + (7 : Int32).toNatClampNeg ≤ 7 ∧ (0 : Int32).toNatClampNeg + (7 : Int32).toNatClampNeg ≤ 7 := by decide
  have g6 : ¬ (0 : Int32) < 0 ∧ ¬ (0 : Int32) < 0 ∧ ¬ (6 : Int32) < 0 ∧ (0 : Int32).toNatClampNeg + (6 : Int32).toNatClampNeg ≤ 6 ∧ (0 : Int32).toNatClampNeg + (6 : Int32).toNatClampNeg ≤ 6 := by decide
  unfold fX2_become
  rw [z_g hk]
  rw [z_w]
  generalize q0 : x_u σ c0 0 (σ c1 0) = t1
  have a0 := z_setf q0
  rw [z_w]
  generalize q1 : x_u t1 c0 1 (t1 c1 1) = t2
  have a1 := z_setf q1
  rw [z_w]
  generalize q2 : x_u t2 c0 2 (t2 c1 2) = t3
  have a2 := z_setf q2
  rw [z_w]
  generalize q3 : x_u t3 c0 3 (t3 c1 3) = t4
  have a3 := z_setf q3
  rw [z_w]
  generalize q4 : x_u t4 c0 4 (t4 c1 4) = t5
  have a4 := z_setf q4
  rw [z_w]
  generalize q5 : x_u t5 c0 5 (t5 c1 5) = t6
  have a5 := z_setf q5
  rw [z_g g7, z_w]
  generalize r1 : x_r t6 (c0 + 1) (va_cpy (t6 (c1 + 1)) (t6 (c0 + 1)) (0 : Int32).toNatClampNeg (0 : Int32).toNatClampNeg (7 : Int32).toNatClampNeg) = t7
  have b1 := z_setr r1
  rw [z_g g7, z_w]
  generalize r2 : x_r t7 (c0 + 2) (va_cpy (t7 (c1 + 2)) (t7 (c0 + 2)) (0 : Int32).toNatClampNeg (0 : Int32).toNatClampNeg (7 : Int32).toNatClampNeg) = t8
  have b2 := z_setr r2
  rw [z_g g6, z_w]
  generalize r3 : x_r t8 (c0 + 3) (va_cpy (t8 (c1 + 3)) (t8 (c0 + 3)) (0 : Int32).toNatClampNeg (0 : Int32).toNatClampNeg (6 : Int32).toNatClampNeg) = t9
  have b3 := z_setr r3
  rw [z_g g6, z_w]
  generalize r4 : x_r t9 (c0 + 4) (va_cpy (t9 (c1 + 4)) (t9 (c0 + 4)) (0 : Int32).toNatClampNeg (0 : Int32).toNatClampNeg (6 : Int32).toNatClampNeg) = t10
  have b4 := z_setr r4
  rw [z_g g6, z_w]
  generalize r5 : x_r t10 (c0 + 5) (va_cpy (t10 (c1 + 5)) (t10 (c0 + 5)) (0 : Int32).toNatClampNeg (0 : Int32).toNatClampNeg (6 : Int32).toNatClampNeg) = t11
  have b5 := z_setr r5
  rw [z_g g6, z_w]
  generalize r6 : x_r t11 (c0 + 6) (va_cpy (t11 (c1 + 6)) (t11 (c0 + 6)) (0 : Int32).toNatClampNeg (0 : Int32).toNatClampNeg (6 : Int32).toNatClampNeg) = t12
  have b6 := z_setr r6
  rw [z_g g6, z_w]
  generalize r7 : x_r t12 (c0 + 7) (va_cpy (t12 (c1 + 7)) (t12 (c0 + 7)) (0 : Int32).toNatClampNeg (0 : Int32).toNatClampNeg (6 : Int32).toNatClampNeg) = t13
  have b7 := z_setr r7
  have fr : ∀ c, (c < c0 ∨ c0 + 8 ≤ c) → t13 c = σ c := fun c hc2 => (b7.1 c (by omega)).trans ((b6.1 c (by omega)).trans ((b5.1 c (by omega)).trans ((b4.1 c (by omega)).trans ((b3.1 c (by omega)).trans ((b2.1 c (by omega)).trans ((b1.1 c (by omega)).trans ((a5.1 c (by omega)).trans ((a4.1 c (by omega)).trans ((a3.1 c (by omega)).trans ((a2.1 c (by omega)).trans ((a1.1 c (by omega)).trans (a0.1 c (by omega)))))))))))))
  have e1 : ∀ c, (c < c0 ∨ c0 < c) → t1 c = σ c := fun c hc2 => a0.1 c (by omega)
  have e2 : ∀ c, (c < c0 ∨ c0 < c) → t2 c = σ c := fun c hc2 => (a1.1 c (by omega)).trans (a0.1 c (by omega))
  have e3 : ∀ c, (c < c0 ∨ c0 < c) → t3 c = σ c := fun c hc2 => (a2.1 c (by omega)).trans ((a1.1 c (by omega)).trans (a0.1 c (by omega)))
  have e4 : ∀ c, (c < c0 ∨ c0 < c) → t4 c = σ c := fun c hc2 => (a3.1 c (by omega)).trans ((a2.1 c (by omega)).trans ((a1.1 c (by omega)).trans (a0.1 c (by omega))))
  have e5 : ∀ c, (c < c0 ∨ c0 < c) → t5 c = σ c := fun c hc2 => (a4.1 c (by omega)).trans ((a3.1 c (by omega)).trans ((a2.1 c (by omega)).trans ((a1.1 c (by omega)).trans (a0.1 c (by omega)))))
  have e6 : ∀ c, (c < c0 ∨ c0 < c) → t6 c = σ c := fun c hc2 => (a5.1 c (by omega)).trans ((a4.1 c (by omega)).trans ((a3.1 c (by omega)).trans ((a2.1 c (by omega)).trans ((a1.1 c (by omega)).trans (a0.1 c (by omega))))))
  have f0 : t13 c0 = t6 c0 := (b7.1 c0 (by omega)).trans ((b6.1 c0 (by omega)).trans ((b5.1 c0 (by omega)).trans ((b4.1 c0 (by omega)).trans ((b3.1 c0 (by omega)).trans ((b2.1 c0 (by omega)).trans (b1.1 c0 (by omega)))))))
  have s0 : t13 c0 0 = σ c1 0 := (congrFun f0 0).trans ((a5.2.2 0 (by decide)).trans ((a4.2.2 0 (by decide)).trans ((a3.2.2 0 (by decide)).trans ((a2.2.2 0 (by decide)).trans ((a1.2.2 0 (by decide)).trans (a0.2.1))))))
  have s1 : t13 c0 1 = σ c1 1 := (congrFun f0 1).trans ((a5.2.2 1 (by decide)).trans ((a4.2.2 1 (by decide)).trans ((a3.2.2 1 (by decide)).trans ((a2.2.2 1 (by decide)).trans ((a1.2.1).trans (congrFun (e1 c1 (by omega)) 1))))))
  have s2 : t13 c0 2 = σ c1 2 := (congrFun f0 2).trans ((a5.2.2 2 (by decide)).trans ((a4.2.2 2 (by decide)).trans ((a3.2.2 2 (by decide)).trans ((a2.2.1).trans (congrFun (e2 c1 (by omega)) 2)))))
  have s3 : t13 c0 3 = σ c1 3 := (congrFun f0 3).trans ((a5.2.2 3 (by decide)).trans ((a4.2.2 3 (by decide)).trans ((a3.2.1).trans (congrFun (e3 c1 (by omega)) 3))))
  have s4 : t13 c0 4 = σ c1 4 := (congrFun f0 4).trans ((a5.2.2 4 (by decide)).trans ((a4.2.1).trans (congrFun (e4 c1 (by omega)) 4)))
  have s5 : t13 c0 5 = σ c1 5 := (congrFun f0 5).trans ((a5.2.1).trans (congrFun (e5 c1 (by omega)) 5))
  have m1 : ∀ j, j < 7 → t13 (c0 + 1) j = σ (c1 + 1) j := fun j hj => (congrFun (b7.1 (c0 + 1) (by omega)) j).trans ((congrFun (b6.1 (c0 + 1) (by omega)) j).trans ((congrFun (b5.1 (c0 + 1) (by omega)) j).trans ((congrFun (b4.1 (c0 + 1) (by omega)) j).trans ((congrFun (b3.1 (c0 + 1) (by omega)) j).trans ((congrFun (b2.1 (c0 + 1) (by omega)) j).trans ((b1.2 j hj).trans (congrFun (e6 (c1 + 1) (by omega)) j)))))))
  have m2 : ∀ j, j < 7 → t13 (c0 + 2) j = σ (c1 + 2) j := fun j hj => (congrFun (b7.1 (c0 + 2) (by omega)) j).trans ((congrFun (b6.1 (c0 + 2) (by omega)) j).trans ((congrFun (b5.1 (c0 + 2) (by omega)) j).trans ((congrFun (b4.1 (c0 + 2) (by omega)) j).trans ((congrFun (b3.1 (c0 + 2) (by omega)) j).trans ((b2.2 j hj).trans ((congrFun (b1.1 (c1 + 2) (by omega)) j).trans (congrFun (e6 (c1 + 2) (by omega)) j)))))))
  have m3 : ∀ j, j < 6 → t13 (c0 + 3) j = σ (c1 + 3) j := fun j hj => (congrFun (b7.1 (c0 + 3) (by omega)) j).trans ((congrFun (b6.1 (c0 + 3) (by omega)) j).trans ((congrFun (b5.1 (c0 + 3) (by omega)) j).trans ((congrFun (b4.1 (c0 + 3) (by omega)) j).trans ((b3.2 j hj).trans ((congrFun (b2.1 (c1 + 3) (by omega)) j).trans ((congrFun (b1.1 (c1 + 3) (by omega)) j).trans (congrFun (e6 (c1 + 3) (by omega)) j)))))))
  have m4 : ∀ j, j < 6 → t13 (c0 + 4) j = σ (c1 + 4) j := fun j hj => (congrFun (b7.1 (c0 + 4) (by omega)) j).trans ((congrFun (b6.1 (c0 + 4) (by omega)) j).trans ((congrFun (b5.1 (c0 + 4) (by omega)) j).trans ((b4.2 j hj).trans ((congrFun (b3.1 (c1 + 4) (by omega)) j).trans ((congrFun (b2.1 (c1 + 4) (by omega)) j).trans ((congrFun (b1.1 (c1 + 4) (by omega)) j).trans (congrFun (e6 (c1 + 4) (by omega)) j)))))))
  have m5 : ∀ j, j < 6 → t13 (c0 + 5) j = σ (c1 + 5) j := fun j hj => (congrFun (b7.1 (c0 + 5) (by omega)) j).trans ((congrFun (b6.1 (c0 + 5) (by omega)) j).trans ((b5.2 j hj).trans ((congrFun (b4.1 (c1 + 5) (by omega)) j).trans ((congrFun (b3.1 (c1 + 5) (by omega)) j).trans ((congrFun (b2.1 (c1 + 5) (by omega)) j).trans ((congrFun (b1.1 (c1 + 5) (by omega)) j).trans (congrFun (e6 (c1 + 5) (by omega)) j)))))))
  have m6 : ∀ j, j < 6 → t13 (c0 + 6) j = σ (c1 + 6) j := fun j hj => (congrFun (b7.1 (c0 + 6) (by omega)) j).trans ((b6.2 j hj).trans ((congrFun (b5.1 (c1 + 6) (by omega)) j).trans ((congrFun (b4.1 (c1 + 6) (by omega)) j).trans ((congrFun (b3.1 (c1 + 6) (by omega)) j).trans ((congrFun (b2.1 (c1 + 6) (by omega)) j).trans ((congrFun (b1.1 (c1 + 6) (by omega)) j).trans (congrFun (e6 (c1 + 6) (by omega)) j)))))))
  have m7 : ∀ j, j < 6 → t13 (c0 + 7) j = σ (c1 + 7) j := fun j hj => (b7.2 j hj).trans ((congrFun (b6.1 (c1 + 7) (by omega)) j).trans ((congrFun (b5.1 (c1 + 7) (by omega)) j).trans ((congrFun (b4.1 (c1 + 7) (by omega)) j).trans ((congrFun (b3.1 (c1 + 7) (by omega)) j).trans ((congrFun (b2.1 (c1 + 7) (by omega)) j).trans ((congrFun (b1.1 (c1 + 7) (by omega)) j).trans (congrFun (e6 (c1 + 7) (by omega)) j)))))))
  obtain ⟨z0, z1, z2, z3, z4, zs, zg⟩ := hS
  refine ⟨t13, rfl, fr, ⟨s1.trans z0, s3.trans z1, s5.trans z2, s2.trans z3, s4.trans z4, fun s hs => ?_, fun g hg => ?_⟩, s0⟩
  · obtain ⟨w1, w2⟩ := zs s hs
    exact ⟨(m1 s (by omega)).trans w1, (m2 s (by omega)).trans w2⟩
  · obtain ⟨w1, w2, w3, w4, w5⟩ := zg g hg
    exact ⟨(m3 g (by omega)).trans w1, (m4 g (by omega)).trans w2, (m5 g (by omega)).trans w3, (m6 g (by omega)).trans w4, (m7 g (by omega)).trans w5⟩
