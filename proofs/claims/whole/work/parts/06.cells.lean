/-! ===== THE SYSTEM'S CELLS =====
0 SignDuty; 1 Rows, 2 its items (8 rows 3 .. 10), 11 lengths, 12 lanes; 13 Reader, 14 tape; 15 images; 16 Acts, 17 .. 19 deeds, whats, values; 20 Teller, 21 least (8 rows 22 .. 29); 30 Asks, 31 numbers; 32 city, 40 draft, 48 and 56 the images: a City and its 7 arrays -/
abbrev s_N : Nat := 64
abbrev s_tys (cI cQ cC cZ : ClassId) : List (ClassId × FieldType) := [(cI, .int), (cQ, .array .int), (cC, .object "SignDuty$City"), (cZ, .boolean)]
def s_F7 (ad : Nat → Nat) (r : Nat → Int32) : List Value := [.ref (ad 1), .ref (ad 13), .ref (ad 32), .ref (ad 40), .ref (ad 15), .ref (ad 16), .ref (ad 20), .ref (ad 30), .int (r 8)]
def s_F5 (ad : Nat → Nat) (r : Nat → Int32) : List Value := [.ref (ad 2), .ref (ad 11), .ref (ad 12)]
def s_F4 (ad : Nat → Nat) (r : Nat → Int32) : List Value := [.ref (ad 14), .int (r 1), .int (r 2), .int (r 3), .int (r 4), .int (r 5)]
def s_F0 (ad : Nat → Nat) (r : Nat → Int32) : List Value := [.ref (ad 17), .ref (ad 18), .ref (ad 19), .int (r 3), .int (r 4)]
def s_F6 (ad : Nat → Nat) (r : Nat → Int32) : List Value := [.ref (ad 21)]
def s_F1 (ad : Nat → Nat) (r : Nat → Int32) : List Value := [.ref (ad 31), .int (r 1)]
def s_F2 (ad : Nat → Nat) (k : Nat) (r : Nat → Int32) : List Value := [.int (r 0), .int (r 1), .int (r 2), .int (r 3), .int (r 4), .int (r 5), .ref (ad (k + 1)), .ref (ad (k + 2)), .ref (ad (k + 3)), .ref (ad (k + 4)), .ref (ad (k + 5)), .ref (ad (k + 6)), .ref (ad (k + 7))]
def s_q (cA : ClassId) (n : Nat) (f : Nat → Nat) : va_E := .inl (cA, n, .inr (.inr (.inr (.inr (fun j => some (f j))))))
def s_C (cI cQ cC : ClassId) (ad : Nat → Nat) : x_C := fun r k =>
  if k < 32 then
    (if k = 0 then .inr (6, s_F7 ad r) else if k = 1 then .inr (4, s_F5 ad r) else if k = 2 then s_q cQ 8 (fun j => ad (3 + j)) else if k < 11 then .inl (cI, 40, .inl r) else if k < 13 then .inl (cI, 8, .inl r)
    else if k = 13 then .inr (3, s_F4 ad r) else if k = 14 then .inl (cI, 120, .inl r) else if k = 15 then s_q cC 2 (fun j => ad (48 + 8 * j)) else if k = 16 then .inr (0, s_F0 ad r) else if k < 20 then .inl (cI, 24, .inl r)
    else if k = 20 then .inr (5, s_F6 ad r) else if k = 21 then s_q cQ 8 (fun j => ad (22 + j)) else if k < 30 then .inl (cI, 100, .inl r) else if k = 30 then .inr (1, s_F1 ad r) else .inl (cI, 16, .inl r))
  else if k % 8 = 0 then .inr (2, s_F2 ad k r) else if k % 8 < 3 then .inl (cI, 7, .inl r) else .inl (cI, 6, .inl r)
def s_iC (c : Nat) : Prop := c = 32 ∨ c = 40 ∨ c = 48 ∨ c = 56
theorem s_iC32 : s_iC 32 := Or.inl rfl
theorem s_iC40 : s_iC 40 := Or.inr (Or.inl rfl)
theorem s_iCim {i : Int32} (h : x_in i 2) : s_iC (48 + 8 * i.toNatClampNeg) := by
  have hlt : i.toNatClampNeg < 2 := Nat.not_le.mp fun q => h (Or.inr q)
  unfold s_iC
  omega
section SC
variable {cI cQ cC : ClassId} {ad : Nat → Nat}
theorem s_c0 : ∀ r, s_C cI cQ cC ad r 0 = .inr (6, s_F7 ad r) := fun _ => rfl
theorem s_c1 : ∀ r, s_C cI cQ cC ad r 1 = .inr (4, s_F5 ad r) := fun _ => rfl
theorem s_c2 : ∀ r, s_C cI cQ cC ad r 2 = s_q cQ 8 (fun j => ad (3 + j)) := fun _ => rfl
theorem s_c11 : ∀ r, s_C cI cQ cC ad r 11 = .inl (cI, 8, .inl r) := fun _ => rfl
theorem s_c12 : ∀ r, s_C cI cQ cC ad r 12 = .inl (cI, 8, .inl r) := fun _ => rfl
theorem s_c13 : ∀ r, s_C cI cQ cC ad r 13 = .inr (3, s_F4 ad r) := fun _ => rfl
theorem s_c14 : ∀ r, s_C cI cQ cC ad r 14 = .inl (cI, 120, .inl r) := fun _ => rfl
theorem s_c15 : ∀ r, s_C cI cQ cC ad r 15 = s_q cC 2 (fun j => ad (48 + 8 * j)) := fun _ => rfl
theorem s_c16 : ∀ r, s_C cI cQ cC ad r 16 = .inr (0, s_F0 ad r) := fun _ => rfl
theorem s_c17 : ∀ r, s_C cI cQ cC ad r 17 = .inl (cI, 24, .inl r) := fun _ => rfl
theorem s_c18 : ∀ r, s_C cI cQ cC ad r 18 = .inl (cI, 24, .inl r) := fun _ => rfl
theorem s_c19 : ∀ r, s_C cI cQ cC ad r 19 = .inl (cI, 24, .inl r) := fun _ => rfl
theorem s_c20 : ∀ r, s_C cI cQ cC ad r 20 = .inr (5, s_F6 ad r) := fun _ => rfl
theorem s_c21 : ∀ r, s_C cI cQ cC ad r 21 = s_q cQ 8 (fun j => ad (22 + j)) := fun _ => rfl
theorem s_c30 : ∀ r, s_C cI cQ cC ad r 30 = .inr (1, s_F1 ad r) := fun _ => rfl
theorem s_c31 : ∀ r, s_C cI cQ cC ad r 31 = .inl (cI, 16, .inl r) := fun _ => rfl
theorem s_lt8 {i : Int32} (h : x_in i 8) : i.toNatClampNeg < 8 := Nat.not_le.mp fun q => h (Or.inr q)
theorem s_kI {i : Int32} (h : x_in i 8) : 3 + i.toNatClampNeg < s_N := by have := s_lt8 h; show _ < 64; omega
theorem s_kL {i : Int32} (h : x_in i 8) : 22 + i.toNatClampNeg < s_N := by have := s_lt8 h; show _ < 64; omega
theorem s_cI {i : Int32} (h : x_in i 8) : ∀ r, s_C cI cQ cC ad r (3 + i.toNatClampNeg) = .inl (cI, 40, .inl r) := by
  have := s_lt8 h
  generalize i.toNatClampNeg = j at this ⊢
  rcases (show j = 0 ∨ j = 1 ∨ j = 2 ∨ j = 3 ∨ j = 4 ∨ j = 5 ∨ j = 6 ∨ j = 7 by omega) with rfl | rfl | rfl | rfl | rfl | rfl | rfl | rfl <;> exact fun _ => rfl
theorem s_cL {i : Int32} (h : x_in i 8) : ∀ r, s_C cI cQ cC ad r (22 + i.toNatClampNeg) = .inl (cI, 100, .inl r) := by
  have := s_lt8 h
  generalize i.toNatClampNeg = j at this ⊢
  rcases (show j = 0 ∨ j = 1 ∨ j = 2 ∨ j = 3 ∨ j = 4 ∨ j = 5 ∨ j = 6 ∨ j = 7 by omega) with rfl | rfl | rfl | rfl | rfl | rfl | rfl | rfl <;> exact fun _ => rfl
theorem s_kC {c : Nat} (h : s_iC c) : c < s_N := by show _ < 64; unfold s_iC at h; omega
theorem s_cC {c : Nat} (h : s_iC c) : ∀ r, s_C cI cQ cC ad r c = .inr (2, s_F2 ad c r) := by rcases h with rfl | rfl | rfl | rfl <;> exact fun _ => rfl
theorem s_kC1 {c : Nat} (h : s_iC c) : c + 1 < s_N := by show _ < 64; unfold s_iC at h; omega
theorem s_cC1 {c : Nat} (h : s_iC c) : ∀ r, s_C cI cQ cC ad r (c + 1) = .inl (cI, 7, .inl r) := by rcases h with rfl | rfl | rfl | rfl <;> exact fun _ => rfl
theorem s_kC2 {c : Nat} (h : s_iC c) : c + 2 < s_N := by show _ < 64; unfold s_iC at h; omega
theorem s_cC2 {c : Nat} (h : s_iC c) : ∀ r, s_C cI cQ cC ad r (c + 2) = .inl (cI, 7, .inl r) := by rcases h with rfl | rfl | rfl | rfl <;> exact fun _ => rfl
theorem s_kC3 {c : Nat} (h : s_iC c) : c + 3 < s_N := by show _ < 64; unfold s_iC at h; omega
theorem s_cC3 {c : Nat} (h : s_iC c) : ∀ r, s_C cI cQ cC ad r (c + 3) = .inl (cI, 6, .inl r) := by rcases h with rfl | rfl | rfl | rfl <;> exact fun _ => rfl
theorem s_kC4 {c : Nat} (h : s_iC c) : c + 4 < s_N := by show _ < 64; unfold s_iC at h; omega
theorem s_cC4 {c : Nat} (h : s_iC c) : ∀ r, s_C cI cQ cC ad r (c + 4) = .inl (cI, 6, .inl r) := by rcases h with rfl | rfl | rfl | rfl <;> exact fun _ => rfl
theorem s_kC5 {c : Nat} (h : s_iC c) : c + 5 < s_N := by show _ < 64; unfold s_iC at h; omega
theorem s_cC5 {c : Nat} (h : s_iC c) : ∀ r, s_C cI cQ cC ad r (c + 5) = .inl (cI, 6, .inl r) := by rcases h with rfl | rfl | rfl | rfl <;> exact fun _ => rfl
theorem s_kC6 {c : Nat} (h : s_iC c) : c + 6 < s_N := by show _ < 64; unfold s_iC at h; omega
theorem s_cC6 {c : Nat} (h : s_iC c) : ∀ r, s_C cI cQ cC ad r (c + 6) = .inl (cI, 6, .inl r) := by rcases h with rfl | rfl | rfl | rfl <;> exact fun _ => rfl
theorem s_kC7 {c : Nat} (h : s_iC c) : c + 7 < s_N := by show _ < 64; unfold s_iC at h; omega
theorem s_cC7 {c : Nat} (h : s_iC c) : ∀ r, s_C cI cQ cC ad r (c + 7) = .inl (cI, 6, .inl r) := by rcases h with rfl | rfl | rfl | rfl <;> exact fun _ => rfl
theorem s_w7_8 (r : Nat → Int32) (v : Int32) : (s_F7 ad r).set 8 (.int v) = s_F7 ad (upd r 8 v) := rfl
theorem s_w4_1 (r : Nat → Int32) (v : Int32) : (s_F4 ad r).set 1 (.int v) = s_F4 ad (upd r 1 v) := rfl
theorem s_w4_2 (r : Nat → Int32) (v : Int32) : (s_F4 ad r).set 2 (.int v) = s_F4 ad (upd r 2 v) := rfl
theorem s_w4_3 (r : Nat → Int32) (v : Int32) : (s_F4 ad r).set 3 (.int v) = s_F4 ad (upd r 3 v) := rfl
theorem s_w4_4 (r : Nat → Int32) (v : Int32) : (s_F4 ad r).set 4 (.int v) = s_F4 ad (upd r 4 v) := rfl
theorem s_w4_5 (r : Nat → Int32) (v : Int32) : (s_F4 ad r).set 5 (.int v) = s_F4 ad (upd r 5 v) := rfl
theorem s_w0_3 (r : Nat → Int32) (v : Int32) : (s_F0 ad r).set 3 (.int v) = s_F0 ad (upd r 3 v) := rfl
theorem s_w0_4 (r : Nat → Int32) (v : Int32) : (s_F0 ad r).set 4 (.int v) = s_F0 ad (upd r 4 v) := rfl
theorem s_w1_1 (r : Nat → Int32) (v : Int32) : (s_F1 ad r).set 1 (.int v) = s_F1 ad (upd r 1 v) := rfl
theorem s_w2_0 {k : Nat} (r : Nat → Int32) (v : Int32) : (s_F2 ad k r).set 0 (.int v) = s_F2 ad k (upd r 0 v) := rfl
theorem s_w2_1 {k : Nat} (r : Nat → Int32) (v : Int32) : (s_F2 ad k r).set 1 (.int v) = s_F2 ad k (upd r 1 v) := rfl
theorem s_w2_2 {k : Nat} (r : Nat → Int32) (v : Int32) : (s_F2 ad k r).set 2 (.int v) = s_F2 ad k (upd r 2 v) := rfl
theorem s_w2_3 {k : Nat} (r : Nat → Int32) (v : Int32) : (s_F2 ad k r).set 3 (.int v) = s_F2 ad k (upd r 3 v) := rfl
theorem s_w2_4 {k : Nat} (r : Nat → Int32) (v : Int32) : (s_F2 ad k r).set 4 (.int v) = s_F2 ad k (upd r 4 v) := rfl
theorem s_w2_5 {k : Nat} (r : Nat → Int32) (v : Int32) : (s_F2 ad k r).set 5 (.int v) = s_F2 ad k (upd r 5 v) := rfl
end SC
/-- the tables: 0 Kinds.WIDER, 1 Asks.SIZE_BODIES, 2 Asks.MARK_BODIES -/
def s_t (b : Nat) : Nat → Int32 := fun j => if b = 0 then [0, 0, 1, 1, 0, 4].getD j 0 else if b = 1 then [10, 11, 12, 0, 13, 14].getD j 0 else [20, 21, 24, 22, 23, 0].getD j 0
def s_St (aS : Nat → Nat) : x_St := fun A U H => va_Z "SignDuty$Kinds" "WIDER" "[I" (.ref (aS 0)) A U H ∧ va_Z "SignDuty$Asks" "SIZE_BODIES" "[I" (.ref (aS 1)) A U H ∧ va_Z "SignDuty$Asks" "MARK_BODIES" "[I" (.ref (aS 2)) A U H ∧ ∀ b, b < 3 → va_T .int (aS b) 6 (fun j => .int (s_t b j)) A U H
theorem s_StOk (aS : Nat → Nat) : x_StOk (s_St aS) := by
  refine ⟨fun A u U H hvm h => ?_, fun A U H H1 hq h => ?_, fun A B U H hq h => ?_⟩
  · exact ⟨h.1.moved hvm, h.2.1.moved hvm, h.2.2.1.moved hvm, fun b hb => (h.2.2.2 b hb).moved hvm⟩
  · exact ⟨h.1.kept hq, h.2.1.kept hq, h.2.2.1.kept hq, fun b hb => (h.2.2.2 b hb).kept hq⟩
  · exact ⟨h.1.narrow hq, h.2.1.narrow hq, h.2.2.1.narrow hq, fun b hb => (h.2.2.2 b hb).narrow hq⟩
def s_NW : x_Nt := fun U => va_Nw (.methodLinkNest RX4 98 yX7_isWithin "SignDuty") U
theorem s_NwOk : x_NwOk s_NW := ⟨fun _ _ hW h => va_Nw.warmM hW h, fun _ _ he h => va_Nw.same rfl he h⟩
def m_NW : x_Nt := fun _ => True
theorem m_NwOk : x_NwOk m_NW := ⟨fun _ _ _ h => h, fun _ _ _ h => h⟩
/-! ===== THE REFERENCE'S CELLS: 0 the object; 1 row, 2 isKept, 3 lanes, 4 sizes, 5 items, 6 tape, 7 trace, 8 costs ===== -/
abbrev m_N : Nat := 9
def m_F (ad : Nat → Nat) (r : Nat → Int32) : List Value := [.ref (ad 1), .int (r 1), .int (r 2), .ref (ad 2), .ref (ad 3), .ref (ad 4), .ref (ad 5), .ref (ad 6), .int (r 8), .int (r 9), .int (r 10), .ref (ad 7), .int (r 12), .int (r 13), .int (r 14), .int (r 15), .ref (ad 8)]
def m_C (cI cZ : ClassId) (ad : Nat → Nat) : x_C := fun r k =>
  if k = 0 then .inr (7, m_F ad r) else if k = 1 then .inl (cI, 1372, .inl r) else if k = 2 then .inl (cZ, 2, .inl r) else if k = 3 then .inl (cI, 8, .inl r) else if k = 4 then .inl (cI, 8, .inl r) else if k = 5 then .inl (cI, 320, .inl r) else if k = 6 then .inl (cI, 120, .inl r) else if k = 7 then .inl (cI, 16, .inl r) else .inl (cI, 800, .inl r)
def m_St : x_St := fun _ _ _ => True
theorem m_StOk : x_StOk m_St := ⟨fun _ _ _ _ _ h => h, fun _ _ _ _ _ h => h, fun _ _ _ _ _ h => h⟩
section MC
variable {cI cZ : ClassId} {ad : Nat → Nat}
theorem m_c0 : ∀ r, m_C cI cZ ad r 0 = .inr (7, m_F ad r) := fun _ => rfl
theorem m_c1 : ∀ r, m_C cI cZ ad r 1 = .inl (cI, 1372, .inl r) := fun _ => rfl
theorem m_c2 : ∀ r, m_C cI cZ ad r 2 = .inl (cZ, 2, .inl r) := fun _ => rfl
theorem m_c3 : ∀ r, m_C cI cZ ad r 3 = .inl (cI, 8, .inl r) := fun _ => rfl
theorem m_c4 : ∀ r, m_C cI cZ ad r 4 = .inl (cI, 8, .inl r) := fun _ => rfl
theorem m_c5 : ∀ r, m_C cI cZ ad r 5 = .inl (cI, 320, .inl r) := fun _ => rfl
theorem m_c6 : ∀ r, m_C cI cZ ad r 6 = .inl (cI, 120, .inl r) := fun _ => rfl
theorem m_c7 : ∀ r, m_C cI cZ ad r 7 = .inl (cI, 16, .inl r) := fun _ => rfl
theorem m_c8 : ∀ r, m_C cI cZ ad r 8 = .inl (cI, 800, .inl r) := fun _ => rfl
theorem m_w_1 (r : Nat → Int32) (v : Int32) : (m_F ad r).set 1 (.int v) = m_F ad (upd r 1 v) := rfl
theorem m_w_2 (r : Nat → Int32) (v : Int32) : (m_F ad r).set 2 (.int v) = m_F ad (upd r 2 v) := rfl
theorem m_w_8 (r : Nat → Int32) (v : Int32) : (m_F ad r).set 8 (.int v) = m_F ad (upd r 8 v) := rfl
theorem m_w_9 (r : Nat → Int32) (v : Int32) : (m_F ad r).set 9 (.int v) = m_F ad (upd r 9 v) := rfl
theorem m_w_10 (r : Nat → Int32) (v : Int32) : (m_F ad r).set 10 (.int v) = m_F ad (upd r 10 v) := rfl
theorem m_w_12 (r : Nat → Int32) (v : Int32) : (m_F ad r).set 12 (.int v) = m_F ad (upd r 12 v) := rfl
theorem m_w_13 (r : Nat → Int32) (v : Int32) : (m_F ad r).set 13 (.int v) = m_F ad (upd r 13 v) := rfl
theorem m_w_14 (r : Nat → Int32) (v : Int32) : (m_F ad r).set 14 (.int v) = m_F ad (upd r 14 v) := rfl
theorem m_w_15 (r : Nat → Int32) (v : Int32) : (m_F ad r).set 15 (.int v) = m_F ad (upd r 15 v) := rfl
end MC
