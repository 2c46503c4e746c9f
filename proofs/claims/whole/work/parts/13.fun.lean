/-! ===== by program out of the bytecode: what each method computes; none where the machine would throw or a loop not end in time ===== -/
def fX1_leave (a1 : Int32) (σ : x_S) : Option x_S :=
  if 16 ≤ (σ 30 1) then (some σ) else (x_g (x_in (σ 30 1) 16) (x_w (x_u σ 31 (σ 30 1).toNatClampNeg a1) (fun σ3 => x_w (x_u σ3 30 1 ((σ3 30 1) + 1)) (fun σ5 => some σ5))))
def fX5_isRow (a0 : Int32) (σ : x_S) : Option Int32 :=
  if a0 < 0 then (some 0) else (if 8 ≤ a0 then (some 0) else (some 1))
def fX7_isWithin (a0 : Int32) (a1 : Int32) (a2 : Int32) (σ : x_S) : Option Int32 :=
  if a0 < a1 then (some 0) else (if a2 < a0 then (some 0) else (some 1))
def fX7_found (a1 : Int32) (σ : x_S) : Option (Int32 × x_S) :=
  x_w (x_u σ 0 8 a1) (fun σ1 => some (((-1000010) - a1), σ1))
def gX5_lay_17 (x1 : Int32) (K17 : Int32 → x_S → Option x_S) (x4 : Int32) (σ : x_S) : Option x_S :=
  if 40 ≤ x4 then (some σ) else (x_g (x_in x1 8) (x_g (x_in x4 40) (x_w (x_u σ (3 + x1.toNatClampNeg) x4.toNatClampNeg 0) (fun σ4 => K17 (x4 + 1) σ4))))
def bX5_lay_17 (x1 : Int32) (x4 : Int32) (σ : x_S) : Option x_S :=
  x_fx (α := Int32 → x_S → Option x_S) (fun _ _ => none) (fun K => fun x4 σ => gX5_lay_17  x1 K x4 σ) x_F x4 σ
def fX5_lay (a1 : Int32) (a2 : Int32) (a3 : Int32) (σ : x_S) : Option x_S :=
  x_g (x_in a1 8) (x_w (x_u σ 11 a1.toNatClampNeg a3) (fun σ2 => x_g (x_in a1 8) (x_w (x_u σ2 12 a1.toNatClampNeg a2) (fun σ5 => bX5_lay_17 a1 0 σ5))))
def fX7_foundNothing (a1 : Int32) (σ : x_S) : Option (Int32 × x_S) :=
  x_w (x_u σ 0 8 0) (fun σ1 => some (a1, σ1))
def fX7_row (a1 : Int32) (a2 : Int32) (a3 : Int32) (σ : x_S) : Option (Int32 × x_S) :=
  x_p (fX5_isRow a1 σ) (fun r2 => if r2 = 0 then (some ((-1000001), σ)) else (x_p (fX7_isWithin a2 0 2 σ) (fun r5 => if r5 = 0 then (some ((-1000001), σ)) else (if a3 ≤ 40 then (if 0 ≤ a3 then (x_v (fX5_lay a1 a2 a3 σ) (fun σ10 => x_b (fX7_foundNothing a3 σ10) (fun r12 σ13 => some (r12, σ13)))) else (x_b (fX7_found 4 σ) (fun r15 σ16 => some (r15, σ16)))) else (some ((-1000001), σ))))))
def fX5_isMissing (a1 : Int32) (σ : x_S) : Option Int32 :=
  x_g (x_in a1 8) (if (σ 11 a1.toNatClampNeg) = (-1) then (some 1) else (some 0))
def fX5_reaches (a1 : Int32) (a2 : Int32) (a3 : Int32) (σ : x_S) : Option Int32 :=
  if a2 < 0 then (some 0) else (if a3 < 0 then (some 0) else (x_g (x_in a1 8) (if (σ 11 a1.toNatClampNeg) < a3 then (some 0) else (x_g (x_in a1 8) (if ((σ 11 a1.toNatClampNeg) - a3) < a2 then (some 0) else (some 1))))))
def fX5_findingOf (a1 : Int32) (a2 : Int32) (a3 : Int32) (σ : x_S) : Option Int32 :=
  x_p (fX5_isMissing a1 σ) (fun r2 => if r2 = 0 then (x_p (fX5_reaches a1 a2 a3 σ) (fun r5 => if r5 = 0 then (some 2) else (some 0))) else (some 1))
def fX5_lowestBits (a0 : Int32) (a1 : Int32) (σ : x_S) : Option Int32 :=
  if a1 = 0 then (some a0.toInt8.toInt32) else (if a1 = 1 then (some a0.toInt16.toInt32) else (some a0))
def fX5_put (a1 : Int32) (a2 : Int32) (a3 : Int32) (σ : x_S) : Option (Int32 × x_S) :=
  x_g (x_in a1 8) (x_g (x_in a1 8) (x_p (fX5_lowestBits a3 (σ 12 a1.toNatClampNeg) σ) (fun r4 => x_g (x_in a2 40) (x_w (x_u σ (3 + a1.toNatClampNeg) a2.toNatClampNeg r4) (fun σ6 => x_g (x_in a1 8) (x_g (x_in a2 40) (some ((σ6 (3 + a1.toNatClampNeg) a2.toNatClampNeg), σ6))))))))
def fX7_set (a1 : Int32) (a2 : Int32) (a3 : Int32) (σ : x_S) : Option (Int32 × x_S) :=
  x_p (fX5_isRow a1 σ) (fun r2 => if r2 = 0 then (some ((-1000001), σ)) else (x_p (fX5_findingOf a1 a2 1 σ) (fun r5 => if r5 = 0 then (x_b (fX5_put a1 a2 a3 σ) (fun r8 σ9 => x_b (fX7_foundNothing r8 σ9) (fun r11 σ12 => some (r11, σ12)))) else (x_b (fX7_found r5 σ) (fun r14 σ15 => some (r14, σ15))))))
def fX5_areAlike (a1 : Int32) (a2 : Int32) (σ : x_S) : Option Int32 :=
  x_g (x_in a1 8) (x_g (x_in a2 8) (if (σ 12 a1.toNatClampNeg) = (σ 12 a2.toNatClampNeg) then (some 1) else (some 0)))
def fX5_carry (a1 : Int32) (a2 : Int32) (a3 : Int32) (a4 : Int32) (a5 : Int32) (σ : x_S) : Option x_S :=
  x_g (x_in a1 8) (x_g (x_in a3 8) (x_g (¬ a2 < 0 ∧ ¬ a4 < 0 ∧ ¬ a5 < 0 ∧ a2.toNatClampNeg + a5.toNatClampNeg ≤ 40 ∧ a4.toNatClampNeg + a5.toNatClampNeg ≤ 40) (x_w (x_r σ (3 + a3.toNatClampNeg) (va_cpy (σ (3 + a1.toNatClampNeg)) (σ (3 + a3.toNatClampNeg)) a2.toNatClampNeg a4.toNatClampNeg a5.toNatClampNeg)) (fun σ4 => some σ4))))
def bX7_copy_39 (σ : x_S) : Option (Int32 × x_S) :=
  x_b (fX7_found 1 σ) (fun r2 σ3 => some (r2, σ3))
def bX7_copy_92 (σ : x_S) : Option (Int32 × x_S) :=
  x_b (fX7_found 2 σ) (fun r2 σ3 => some (r2, σ3))
def fX7_copy (a1 : Int32) (a2 : Int32) (a3 : Int32) (a4 : Int32) (a5 : Int32) (σ : x_S) : Option (Int32 × x_S) :=
  x_p (fX5_isRow a1 σ) (fun r2 => if r2 = 0 then (some ((-1000001), σ)) else (x_p (fX5_isRow a3 σ) (fun r5 => if r5 = 0 then (some ((-1000001), σ)) else (x_p (fX5_isMissing a1 σ) (fun r8 => if r8 = 0 then (x_p (fX5_isMissing a3 σ) (fun r11 => if r11 = 0 then (x_p (fX5_areAlike a1 a3 σ) (fun r14 => if r14 = 0 then (x_b (fX7_found 5 σ) (fun r28 σ29 => some (r28, σ29))) else (x_p (fX5_reaches a1 a2 a5 σ) (fun r17 => if r17 = 0 then (bX7_copy_92 σ) else (x_p (fX5_reaches a3 a4 a5 σ) (fun r20 => if r20 = 0 then (bX7_copy_92 σ) else (x_v (fX5_carry a1 a2 a3 a4 a5 σ) (fun σ23 => x_b (fX7_foundNothing a5 σ23) (fun r25 σ26 => some (r25, σ26)))))))))) else (bX7_copy_39 σ))) else (bX7_copy_39 σ))))))
def fX5_takeAway (a1 : Int32) (σ : x_S) : Option (Int32 × x_S) :=
  x_g (x_in a1 8) (x_g (x_in a1 8) (x_w (x_u σ 11 a1.toNatClampNeg (-1)) (fun σ3 => some ((σ 11 a1.toNatClampNeg), σ3))))
def fX7_drop (a1 : Int32) (σ : x_S) : Option (Int32 × x_S) :=
  x_p (fX5_isRow a1 σ) (fun r2 => if r2 = 0 then (some ((-1000001), σ)) else (x_p (fX5_isMissing a1 σ) (fun r5 => if r5 = 0 then (x_b (fX5_takeAway a1 σ) (fun r8 σ9 => x_b (fX7_foundNothing r8 σ9) (fun r11 σ12 => some (r11, σ12)))) else (x_b (fX7_found 1 σ) (fun r14 σ15 => some (r14, σ15))))))
def fX4_isFull (σ : x_S) : Option Int32 :=
  if (σ 13 1) < 120 then (some 0) else (some 1)
def fX4_append (a1 : Int32) (σ : x_S) : Option (Int32 × x_S) :=
  x_p (fX4_isFull σ) (fun r2 => if r2 = 0 then (x_g (x_in (σ 13 1) 120) (x_w (x_u σ 14 (σ 13 1).toNatClampNeg a1) (fun σ5 => x_w (x_u σ5 13 1 ((σ5 13 1) + 1)) (fun σ7 => some ((σ7 13 1), σ7))))) else (some ((σ 13 1), σ)))
def fX7_feed (a1 : Int32) (σ : x_S) : Option (Int32 × x_S) :=
  x_p (fX7_isWithin a1 0 255 σ) (fun r2 => if r2 = 0 then (some ((-1000001), σ)) else (x_p (fX4_isFull σ) (fun r5 => if r5 = 0 then (x_b (fX4_append a1 σ) (fun r8 σ9 => some (r8, σ9))) else (some ((-1000003), σ)))))
def fX4_next (σ : x_S) : Option Int32 :=
  if (σ 13 5) < 0 then (some (-1)) else (if (σ 13 1) ≤ (σ 13 5) then (some (-1)) else (if 120 ≤ (σ 13 5) then (some (-1)) else (x_g (x_in (σ 13 5) 120) (some (σ 14 (σ 13 5).toNatClampNeg)))))
def fX4_failAt (a1 : Int32) (a2 : Int32) (σ : x_S) : Option x_S :=
  if (σ 13 4) = 0 then (x_w (x_u σ 13 4 a2) (fun σ2 => x_w (x_u σ2 13 2 a2) (fun σ4 => x_w (x_u σ4 13 3 a1) (fun σ6 => some σ6)))) else (some σ)
def fX4_fail (a1 : Int32) (σ : x_S) : Option x_S :=
  x_v (fX4_failAt (σ 13 5) a1 σ) (fun σ2 => some σ2)
def bX4_readSign_13 (σ : x_S) : Option x_S :=
  x_w (x_u σ 13 5 ((σ 13 5) + 1)) (fun σ1 => some σ1)
def fX4_readSign (a1 : Int32) (σ : x_S) : Option x_S :=
  x_p (fX4_next σ) (fun r2 => if r2 = a1 then (bX4_readSign_13 σ) else (x_v (fX4_fail 1 σ) (fun σ5 => bX4_readSign_13 σ5)))
def bX4_readNumber_88 (x4 : Int32) (x5 : Int32) (σ : x_S) : Option (Int32 × x_S) :=
  x_v (fX4_failAt x5 1 σ) (fun σ2 => some (x4, σ2))
def bX4_readNumber_79 (x1 : Int32) (x2 : Int32) (x3 : Int32) (x4 : Int32) (x5 : Int32) (σ : x_S) : Option (Int32 × x_S) :=
  if x3 = 0 then (bX4_readNumber_88 x4 x5 σ) else (if x3 ≤ 2 then (x_p (fX7_isWithin x4 x1 x2 σ) (fun r4 => if r4 = 0 then (x_v (fX4_failAt x5 2 σ) (fun σ7 => some (x4, σ7))) else (some (x4, σ)))) else (bX4_readNumber_88 x4 x5 σ))
def bX4_readNumber_58 (K14 : Int32 → Int32 → Int32 → x_S → Option (Int32 × x_S)) (x1 : Int32) (x2 : Int32) (x3 : Int32) (x5 : Int32) (x6 : Int32) (y0 : Int32) (σ : x_S) : Option (Int32 × x_S) :=
  x_w (x_u σ 13 5 ((σ 13 5) + 1)) (fun σ1 => K14 (x3 + 1) y0 (x6 + 1) σ1)
def gX4_readNumber_14 (x1 : Int32) (x2 : Int32) (x5 : Int32) (K14 : Int32 → Int32 → Int32 → x_S → Option (Int32 × x_S)) (x3 : Int32) (x4 : Int32) (x6 : Int32) (σ : x_S) : Option (Int32 × x_S) :=
  if 120 ≤ x6 then (bX4_readNumber_79 x1 x2 x3 x4 x5 σ) else (x_p (fX4_next σ) (fun r3 => x_p (fX7_isWithin r3 48 57 σ) (fun r5 => if r5 = 0 then (bX4_readNumber_79 x1 x2 x3 x4 x5 σ) else (if 2 ≤ x3 then (bX4_readNumber_58 K14 x1 x2 x3 x5 x6 x4 σ) else (x_p (fX4_next σ) (fun r9 => bX4_readNumber_58 K14 x1 x2 x3 x5 x6 (((x4 * 10) + r9) - 48) σ))))))
def bX4_readNumber_14 (x1 : Int32) (x2 : Int32) (x5 : Int32) (x3 : Int32) (x4 : Int32) (x6 : Int32) (σ : x_S) : Option (Int32 × x_S) :=
  x_fx (α := Int32 → Int32 → Int32 → x_S → Option (Int32 × x_S)) (fun _ _ _ _ => none) (fun K => fun x3 x4 x6 σ => gX4_readNumber_14  x1 x2 x5 K x3 x4 x6 σ) x_F x3 x4 x6 σ
def fX4_readNumber (a1 : Int32) (a2 : Int32) (σ : x_S) : Option (Int32 × x_S) :=
  bX4_readNumber_14 a1 a2 (σ 13 5) 0 0 0 σ
def fX2_begin (c0 : Nat) (a1 : Int32) (σ : x_S) : Option x_S :=
  x_w (x_u σ c0 0 1) (fun σ1 => x_w (x_u σ1 c0 1 a1) (fun σ3 => x_w (x_u σ3 c0 2 0) (fun σ5 => x_w (x_u σ5 c0 3 0) (fun σ7 => x_w (x_u σ7 c0 4 0) (fun σ9 => x_w (x_u σ9 c0 5 0) (fun σ11 => some σ11))))))
def fX4_readLaw (c1 : Nat) (σ : x_S) : Option x_S :=
  x_v (fX4_readSign 100 σ) (fun σ2 => x_b (fX4_readNumber 1 9 σ2) (fun r4 σ5 => x_v (fX2_begin c1 r4 σ5) (fun σ7 => x_v (fX4_readSign 59 σ7) (fun σ9 => some σ9))))
def fX4_readStreet (c1 : Nat) (σ : x_S) : Option x_S :=
  if (σ c1 3) < 7 then (x_v (fX4_readSign 114 σ) (fun σ3 => x_b (fX4_readNumber 0 30 σ3) (fun r5 σ6 => x_g (x_in (σ c1 3) 7) (x_w (x_u σ6 (c1 + 1) (σ c1 3).toNatClampNeg r5) (fun σ8 => x_v (fX4_readSign 44 σ8) (fun σ11 => x_b (fX4_readNumber 0 9 σ11) (fun r13 σ14 => x_g (x_in (σ c1 3) 7) (x_w (x_u σ14 (c1 + 2) (σ c1 3).toNatClampNeg r13) (fun σ16 => x_v (fX4_readSign 59 σ16) (fun σ19 => x_w (x_u σ19 c1 3 ((σ19 c1 3) + 1)) (fun σ20 => some σ20))))))))))) else (x_v (fX4_fail 3 σ) (fun σ23 => some σ23))
def fX3_ofLetter (a0 : Int32) (σ : x_S) : Option Int32 :=
  if a0 = 98 then (some 3) else (if a0 = 107 then (some 4) else (if a0 = 110 then (some 2) else (if a0 = 115 then (some 5) else (if a0 = 119 then (some 1) else (some 0)))))
def fX4_readGesture (c1 : Nat) (σ : x_S) : Option x_S :=
  if (σ c1 5) < 6 then (x_p (fX4_next σ) (fun r3 => x_p (fX3_ofLetter r3 σ) (fun r5 => x_g (x_in (σ c1 5) 6) (x_w (x_u σ (c1 + 3) (σ c1 5).toNatClampNeg r5) (fun σ7 => x_w (x_u σ7 13 5 ((σ7 13 5) + 1)) (fun σ9 => x_b (fX4_readNumber 1 30 σ9) (fun r12 σ13 => x_g (x_in (σ c1 5) 6) (x_w (x_u σ13 (c1 + 4) (σ c1 5).toNatClampNeg r12) (fun σ15 => x_v (fX4_readSign 44 σ15) (fun σ18 => x_b (fX4_readNumber 0 3 σ18) (fun r20 σ21 => x_g (x_in (σ c1 5) 6) (x_w (x_u σ21 (c1 + 5) (σ c1 5).toNatClampNeg r20) (fun σ23 => x_v (fX4_readSign 44 σ23) (fun σ26 => x_b (fX4_readNumber 1 9 σ26) (fun r28 σ29 => x_g (x_in (σ c1 5) 6) (x_w (x_u σ29 (c1 + 6) (σ c1 5).toNatClampNeg r28) (fun σ31 => x_v (fX4_readSign 59 σ31) (fun σ34 => x_g (x_in (σ c1 5) 6) (x_w (x_u σ34 (c1 + 7) (σ c1 5).toNatClampNeg 0) (fun σ36 => x_w (x_u σ36 c1 5 ((σ36 c1 5) + 1)) (fun σ38 => some σ38))))))))))))))))))))) else (x_v (fX4_fail 3 σ) (fun σ41 => some σ41))
def bX4_reads_102 (σ : x_S) : Option (Int32 × x_S) :=
  x_w (x_u σ 13 1 0) (fun σ1 => if (σ1 13 4) = 0 then (some (1, σ1)) else (some (0, σ1)))
def bX4_reads_86 (σ : x_S) : Option (Int32 × x_S) :=
  if (σ 13 1) ≤ (σ 13 5) then (bX4_reads_102 σ) else (x_v (fX4_fail 1 σ) (fun σ3 => bX4_reads_102 σ3))
def gX4_reads_52 (c1 : Nat) (K52 : Int32 → x_S → Option (Int32 × x_S)) (x2 : Int32) (σ : x_S) : Option (Int32 × x_S) :=
  if 120 ≤ x2 then (bX4_reads_86 σ) else (if (σ 13 4) = 0 then (x_p (fX4_next σ) (fun r4 => x_p (fX3_ofLetter r4 σ) (fun r6 => if r6 = 0 then (bX4_reads_86 σ) else (x_v (fX4_readGesture c1 σ) (fun σ9 => K52 (x2 + 1) σ9))))) else (bX4_reads_86 σ))
def bX4_reads_52 (c1 : Nat) (x2 : Int32) (σ : x_S) : Option (Int32 × x_S) :=
  x_fx (α := Int32 → x_S → Option (Int32 × x_S)) (fun _ _ => none) (fun K => fun x2 σ => gX4_reads_52  c1 K x2 σ) x_F x2 σ
def gX4_reads_17 (c1 : Nat) (K17 : Int32 → x_S → Option (Int32 × x_S)) (x2 : Int32) (σ : x_S) : Option (Int32 × x_S) :=
  if 120 ≤ x2 then (bX4_reads_52 c1 0 σ) else (if (σ 13 4) = 0 then (x_p (fX4_next σ) (fun r4 => if r4 = 114 then (x_v (fX4_readStreet c1 σ) (fun σ7 => K17 (x2 + 1) σ7)) else (bX4_reads_52 c1 0 σ))) else (bX4_reads_52 c1 0 σ))
def bX4_reads_17 (c1 : Nat) (x2 : Int32) (σ : x_S) : Option (Int32 × x_S) :=
  x_fx (α := Int32 → x_S → Option (Int32 × x_S)) (fun _ _ => none) (fun K => fun x2 σ => gX4_reads_17  c1 K x2 σ) x_F x2 σ
def fX4_reads (c1 : Nat) (σ : x_S) : Option (Int32 × x_S) :=
  x_w (x_u σ 13 4 0) (fun σ1 => x_w (x_u σ1 13 5 0) (fun σ3 => x_v (fX4_readLaw c1 σ3) (fun σ6 => bX4_reads_17 c1 0 σ6)))
def fX2_become (c0 : Nat) (c1 : Nat) (σ : x_S) : Option x_S :=
  x_g ((σ c1 0) = 0 ∨ (σ c1 0) = 1) (x_w (x_u σ c0 0 (σ c1 0)) (fun σ2 => x_w (x_u σ2 c0 1 (σ2 c1 1)) (fun σ4 => x_w (x_u σ4 c0 2 (σ4 c1 2)) (fun σ6 => x_w (x_u σ6 c0 3 (σ6 c1 3)) (fun σ8 => x_w (x_u σ8 c0 4 (σ8 c1 4)) (fun σ10 => x_w (x_u σ10 c0 5 (σ10 c1 5)) (fun σ12 => x_g (¬ (0 : Int32) < 0 ∧ ¬ (0 : Int32) < 0 ∧ ¬ (7 : Int32) < 0 ∧ (0 : Int32).toNatClampNeg + (7 : Int32).toNatClampNeg ≤ 7 ∧ (0 : Int32).toNatClampNeg + (7 : Int32).toNatClampNeg ≤ 7) (x_w (x_r σ12 (c0 + 1) (va_cpy (σ12 (c1 + 1)) (σ12 (c0 + 1)) (0 : Int32).toNatClampNeg (0 : Int32).toNatClampNeg (7 : Int32).toNatClampNeg)) (fun σ15 => x_g (¬ (0 : Int32) < 0 ∧ ¬ (0 : Int32) < 0 ∧ ¬ (7 : Int32) < 0 ∧ (0 : Int32).toNatClampNeg + (7 : Int32).toNatClampNeg ≤ 7 ∧ (0 : Int32).toNatClampNeg + (7 : Int32).toNatClampNeg ≤ 7) (x_w (x_r σ15 (c0 + 2) (va_cpy (σ15 (c1 + 2)) (σ15 (c0 + 2)) (0 : Int32).toNatClampNeg (0 : Int32).toNatClampNeg (7 : Int32).toNatClampNeg)) (fun σ18 => x_g (¬ (0 : Int32) < 0 ∧ ¬ (0 : Int32) < 0 ∧ ¬ (6 : Int32) < 0 ∧ (0 : Int32).toNatClampNeg + (6 : Int32).toNatClampNeg ≤ 6 ∧ (0 : Int32).toNatClampNeg + (6 : Int32).toNatClampNeg ≤ 6) (x_w (x_r σ18 (c0 + 3) (va_cpy (σ18 (c1 + 3)) (σ18 (c0 + 3)) (0 : Int32).toNatClampNeg (0 : Int32).toNatClampNeg (6 : Int32).toNatClampNeg)) (fun σ21 => x_g (¬ (0 : Int32) < 0 ∧ ¬ (0 : Int32) < 0 ∧ ¬ (6 : Int32) < 0 ∧ (0 : Int32).toNatClampNeg + (6 : Int32).toNatClampNeg ≤ 6 ∧ (0 : Int32).toNatClampNeg + (6 : Int32).toNatClampNeg ≤ 6) (x_w (x_r σ21 (c0 + 4) (va_cpy (σ21 (c1 + 4)) (σ21 (c0 + 4)) (0 : Int32).toNatClampNeg (0 : Int32).toNatClampNeg (6 : Int32).toNatClampNeg)) (fun σ24 => x_g (¬ (0 : Int32) < 0 ∧ ¬ (0 : Int32) < 0 ∧ ¬ (6 : Int32) < 0 ∧ (0 : Int32).toNatClampNeg + (6 : Int32).toNatClampNeg ≤ 6 ∧ (0 : Int32).toNatClampNeg + (6 : Int32).toNatClampNeg ≤ 6) (x_w (x_r σ24 (c0 + 5) (va_cpy (σ24 (c1 + 5)) (σ24 (c0 + 5)) (0 : Int32).toNatClampNeg (0 : Int32).toNatClampNeg (6 : Int32).toNatClampNeg)) (fun σ27 => x_g (¬ (0 : Int32) < 0 ∧ ¬ (0 : Int32) < 0 ∧ ¬ (6 : Int32) < 0 ∧ (0 : Int32).toNatClampNeg + (6 : Int32).toNatClampNeg ≤ 6 ∧ (0 : Int32).toNatClampNeg + (6 : Int32).toNatClampNeg ≤ 6) (x_w (x_r σ27 (c0 + 6) (va_cpy (σ27 (c1 + 6)) (σ27 (c0 + 6)) (0 : Int32).toNatClampNeg (0 : Int32).toNatClampNeg (6 : Int32).toNatClampNeg)) (fun σ30 => x_g (¬ (0 : Int32) < 0 ∧ ¬ (0 : Int32) < 0 ∧ ¬ (6 : Int32) < 0 ∧ (0 : Int32).toNatClampNeg + (6 : Int32).toNatClampNeg ≤ 6 ∧ (0 : Int32).toNatClampNeg + (6 : Int32).toNatClampNeg ≤ 6) (x_w (x_r σ30 (c0 + 7) (va_cpy (σ30 (c1 + 7)) (σ30 (c0 + 7)) (0 : Int32).toNatClampNeg (0 : Int32).toNatClampNeg (6 : Int32).toNatClampNeg)) (fun σ33 => some σ33)))))))))))))))))))))
def fX0_forgetAll (σ : x_S) : Option x_S :=
  x_w (x_u σ 16 4 0) (fun σ1 => some σ1)
def fX7_city (σ : x_S) : Option (Int32 × x_S) :=
  x_b (fX4_reads 40 σ) (fun r2 σ3 => if r2 = 0 then (some (((-1000100) - (σ3 13 3)), σ3)) else (x_v (fX2_become 32 40 σ3) (fun σ6 => x_v (fX0_forgetAll σ6) (fun σ8 => some ((σ8 32 5), σ8)))))
def fX7_fault (σ : x_S) : Option Int32 :=
  some (σ 13 2)
def fX7_isGesture (a1 : Int32) (σ : x_S) : Option Int32 :=
  if a1 < 0 then (some 0) else (if (σ 32 5) ≤ a1 then (some 0) else (some 1))
def fX7_isStreet (a1 : Int32) (σ : x_S) : Option Int32 :=
  if a1 < 0 then (some 0) else (if (σ 32 3) ≤ a1 then (some 0) else (some 1))
def bX2_isSeen_41 (c0 : Nat) (x2 : Int32) (y0 : Int32) (y1 : Int32) (σ : x_S) : Option Int32 :=
  x_g (x_in x2 7) (if (y1 + y0) < (σ (c0 + 1) x2.toNatClampNeg) then (some 0) else (some 1))
def bX2_isSeen_25 (c0 : Nat) (x1 : Int32) (x2 : Int32) (y0 : Int32) (σ : x_S) : Option Int32 :=
  x_g (x_in x1 6) (if y0 = 0 then (bX2_isSeen_41 c0 x2 0 (σ (c0 + 4) x1.toNatClampNeg) σ) else (bX2_isSeen_41 c0 x2 5 (σ (c0 + 4) x1.toNatClampNeg) σ))
def fX2_isSeen (c0 : Nat) (a1 : Int32) (a2 : Int32) (σ : x_S) : Option Int32 :=
  x_g (x_in a1 6) (if (σ (c0 + 3) a1.toNatClampNeg) = 4 then (bX2_isSeen_25 c0 a1 a2 1 σ) else (x_g (x_in a1 6) (if (σ (c0 + 3) a1.toNatClampNeg) = 5 then (bX2_isSeen_25 c0 a1 a2 1 σ) else (bX2_isSeen_25 c0 a1 a2 0 σ))))
def fX2_owesUnknown (c0 : Nat) (a1 : Int32) (a2 : Int32) (a3 : Int32) (σ : x_S) : Option Int32 :=
  x_g (x_in a3 7) (if a1 = 1 then (some ((a2 * (σ c0 1)) + ((a2 * (σ (c0 + 2) a3.toNatClampNeg)) / 10))) else (if a1 = 2 then (some (((a2 * (σ c0 1)) + ((a2 * (σ (c0 + 2) a3.toNatClampNeg)) / 10)) / 2)) else (if a1 = 3 then (some (((a2 * (σ c0 1)) + ((a2 * (σ (c0 + 2) a3.toNatClampNeg)) / 10)) + ((σ c0 1) * (if 0 < (a2 - 10) then (a2 - 10) else 0)))) else (if a1 = 4 then (some 1) else (if a1 = 5 then (x_g (x_in a3 7) (if (σ (c0 + 2) a3.toNatClampNeg) < 5 then (some 1) else (some ((a2 * (σ c0 1)) + ((a2 * (σ (c0 + 2) a3.toNatClampNeg)) / 10))))) else (some 1))))))
def fX2_isKnown (c0 : Nat) (a1 : Int32) (σ : x_S) : Option Int32 :=
  if (((σ c0 4) >>> (a1 &&& 31)) &&& 1) = 1 then (some 1) else (some 0)
def fX2_owesSuch (c0 : Nat) (a1 : Int32) (a2 : Int32) (a3 : Int32) (σ : x_S) : Option Int32 :=
  x_p (fX2_owesUnknown c0 a1 a2 a3 σ) (fun r2 => x_p (fX2_isKnown c0 a3 σ) (fun r4 => if r4 = 0 then (some r2) else (some (r2 / 2))))
def fX2_owes (c0 : Nat) (a1 : Int32) (a2 : Int32) (σ : x_S) : Option Int32 :=
  x_g (x_in a1 6) (x_g (x_in a1 6) (x_p (fX2_owesSuch c0 (σ (c0 + 3) a1.toNatClampNeg) (σ (c0 + 4) a1.toNatClampNeg) a2 σ) (fun r4 => some r4)))
def fX0_keep (a1 : Int32) (a2 : Int32) (a3 : Int32) (σ : x_S) : Option x_S :=
  x_g (x_in (σ 16 3) 24) (x_w (x_u σ 17 (σ 16 3).toNatClampNeg a1) (fun σ2 => x_g (x_in (σ2 16 3) 24) (x_w (x_u σ2 18 (σ2 16 3).toNatClampNeg a2) (fun σ5 => x_g (x_in (σ5 16 3) 24) (x_w (x_u σ5 19 (σ5 16 3).toNatClampNeg a3) (fun σ8 => x_w (x_u σ8 16 3 (((σ8 16 3) + 1) - ((σ8 16 3) + 1) / 24 * 24)) (fun σ10 => x_w (x_u σ10 16 4 (if 24 < ((σ10 16 4) + 1) then 24 else ((σ10 16 4) + 1))) (fun σ12 => some σ12))))))))
def fX7_make (a1 : Int32) (a2 : Int32) (σ : x_S) : Option (Int32 × x_S) :=
  x_p (fX7_isGesture a1 σ) (fun r2 => if r2 = 0 then (some ((-1000001), σ)) else (x_p (fX7_isStreet a2 σ) (fun r5 => if r5 = 0 then (some ((-1000001), σ)) else (x_p (fX2_isSeen 32 a1 a2 σ) (fun r8 => if r8 = 0 then (some ((-1000002), σ)) else (x_p (fX2_owes 32 a1 a2 σ) (fun r11 => if ((σ 32 2) + r11) ≤ 99999 then (x_g (x_in a1 6) (x_g (x_in a1 6) (x_w (x_u σ 39 a1.toNatClampNeg ((σ 39 a1.toNatClampNeg) + 1)) (fun σ15 => x_w (x_u σ15 32 2 ((σ15 32 2) + r11)) (fun σ17 => x_v (fX0_keep 0 a1 r11 σ17) (fun σ20 => some ((σ20 32 2), σ20))))))) else (some ((-1000003), σ)))))))))
def fX7_dim (a1 : Int32) (a2 : Int32) (σ : x_S) : Option (Int32 × x_S) :=
  x_p (fX7_isStreet a1 σ) (fun r2 => if r2 = 0 then (some ((-1000001), σ)) else (x_p (fX7_isWithin a2 0 30 σ) (fun r5 => if r5 = 0 then (some ((-1000001), σ)) else (x_g (x_in a1 7) (x_g (x_in a1 7) (x_w (x_u σ 33 a1.toNatClampNeg a2) (fun σ9 => x_v (fX0_keep 1 a1 (σ 33 a1.toNatClampNeg) σ9) (fun σ12 => some ((σ 33 a1.toNatClampNeg), σ12)))))))))
def fX7_train (a1 : Int32) (a2 : Int32) (σ : x_S) : Option (Int32 × x_S) :=
  x_p (fX7_isGesture a1 σ) (fun r2 => if r2 = 0 then (some ((-1000001), σ)) else (x_p (fX7_isWithin a2 1 29 σ) (fun r5 => if r5 = 0 then (some ((-1000001), σ)) else (x_g (x_in a1 6) (if 1 ≤ ((σ 36 a1.toNatClampNeg) - a2) then (x_g (x_in a1 6) (x_g (x_in a1 6) (x_w (x_u σ 36 a1.toNatClampNeg ((σ 36 a1.toNatClampNeg) - a2)) (fun σ11 => x_v (fX0_keep 2 a1 a2 σ11) (fun σ14 => x_g (x_in a1 6) (some ((σ14 36 a1.toNatClampNeg), σ14))))))) else (some ((-1000002), σ)))))))
def fX2_turnKnown (c0 : Nat) (a1 : Int32) (σ : x_S) : Option x_S :=
  x_w (x_u σ c0 4 ((σ c0 4) ^^^ (1 <<< (a1 &&& 31)))) (fun σ1 => some σ1)
def bX7_know_38 (x1 : Int32) (y0 : Int32) (y1 : Int32) (σ : x_S) : Option (Int32 × x_S) :=
  if y1 = y0 then (some ((-1000002), σ)) else (x_v (fX2_turnKnown 32 x1 σ) (fun σ3 => x_v (fX0_keep 3 x1 0 σ3) (fun σ5 => some ((σ5 32 4), σ5))))
def fX7_know (a1 : Int32) (a2 : Int32) (σ : x_S) : Option (Int32 × x_S) :=
  x_p (fX7_isStreet a1 σ) (fun r2 => if r2 = 0 then (some ((-1000001), σ)) else (x_p (fX7_isWithin a2 0 1 σ) (fun r5 => if r5 = 0 then (some ((-1000001), σ)) else (x_p (fX2_isKnown 32 a1 σ) (fun r8 => if a2 = 1 then (bX7_know_38 a1 1 r8 σ) else (bX7_know_38 a1 0 r8 σ))))))
def fX0_takeBack (c1 : Nat) (σ : x_S) : Option x_S :=
  x_w (x_u σ 16 3 ((((σ 16 3) + 24) - 1) - (((σ 16 3) + 24) - 1) / 24 * 24)) (fun σ1 => x_w (x_u σ1 16 4 ((σ1 16 4) - 1)) (fun σ3 => x_g (x_in (σ3 16 3) 24) (x_g (x_in (σ3 16 3) 24) (x_g (x_in (σ3 16 3) 24) (if (σ3 17 (σ3 16 3).toNatClampNeg) = 0 then (x_g (x_in (σ3 18 (σ3 16 3).toNatClampNeg) 6) (x_g (x_in (σ3 18 (σ3 16 3).toNatClampNeg) 6) (x_w (x_u σ3 (c1 + 7) (σ3 18 (σ3 16 3).toNatClampNeg).toNatClampNeg ((σ3 (c1 + 7) (σ3 18 (σ3 16 3).toNatClampNeg).toNatClampNeg) - 1)) (fun σ11 => x_w (x_u σ11 c1 2 ((σ11 c1 2) - (σ3 19 (σ3 16 3).toNatClampNeg))) (fun σ13 => some σ13))))) else (if (σ3 17 (σ3 16 3).toNatClampNeg) = 1 then (x_g (x_in (σ3 18 (σ3 16 3).toNatClampNeg) 7) (x_w (x_u σ3 (c1 + 1) (σ3 18 (σ3 16 3).toNatClampNeg).toNatClampNeg (σ3 19 (σ3 16 3).toNatClampNeg)) (fun σ17 => some σ17))) else (if (σ3 17 (σ3 16 3).toNatClampNeg) = 2 then (x_g (x_in (σ3 18 (σ3 16 3).toNatClampNeg) 6) (x_g (x_in (σ3 18 (σ3 16 3).toNatClampNeg) 6) (x_w (x_u σ3 (c1 + 4) (σ3 18 (σ3 16 3).toNatClampNeg).toNatClampNeg ((σ3 (c1 + 4) (σ3 18 (σ3 16 3).toNatClampNeg).toNatClampNeg) + (σ3 19 (σ3 16 3).toNatClampNeg))) (fun σ22 => some σ22)))) else (if (σ3 17 (σ3 16 3).toNatClampNeg) = 3 then (x_v (fX2_turnKnown c1 (σ3 18 (σ3 16 3).toNatClampNeg) σ3) (fun σ26 => some σ26)) else (some σ3)))))))))
def fX7_undo (σ : x_S) : Option (Int32 × x_S) :=
  if (σ 16 4) = 0 then (some ((-1000002), σ)) else (x_v (fX0_takeBack 32 σ) (fun σ3 => some ((σ3 16 4), σ3)))
def gX2_streetsThatSee_4 (c0 : Nat) (x1 : Int32) (K4 : Int32 → Int32 → Option Int32) (x2 : Int32) (x3 : Int32) (σ : x_S) : Option Int32 :=
  if (σ c0 3) ≤ x3 then (some x2) else (x_p (fX2_isSeen c0 x1 x3 σ) (fun r3 => if r3 = 0 then (K4 (x2 ||| 0) (x3 + 1)) else (K4 (x2 ||| (1 <<< (x3 &&& 31))) (x3 + 1))))
def bX2_streetsThatSee_4 (c0 : Nat) (x1 : Int32) (x2 : Int32) (x3 : Int32) (σ : x_S) : Option Int32 :=
  x_fx (α := Int32 → Int32 → Option Int32) (fun _ _ => none) (fun K => fun x2 x3 => gX2_streetsThatSee_4  c0 x1 K x2 x3 σ) x_F x2 x3
def fX2_streetsThatSee (c0 : Nat) (a1 : Int32) (σ : x_S) : Option Int32 :=
  bX2_streetsThatSee_4 c0 a1 0 0 σ
def fX7_gesture (a1 : Int32) (a2 : Int32) (σ : x_S) : Option Int32 :=
  x_p (fX7_isGesture a1 σ) (fun r2 => if r2 = 0 then (some (-1000001)) else (if a2 = 0 then (x_g (x_in a1 6) (some (σ 36 a1.toNatClampNeg))) else (if a2 = 1 then (x_g (x_in a1 6) (some (σ 37 a1.toNatClampNeg))) else (if a2 = 2 then (x_g (x_in a1 6) (some (σ 38 a1.toNatClampNeg))) else (if a2 = 3 then (x_p (fX2_streetsThatSee 32 a1 σ) (fun r12 => some r12)) else (if a2 = 4 then (x_g (x_in a1 6) (some (σ 39 a1.toNatClampNeg))) else (some (-1000001))))))))
def gX2_gesturesSeenIn_4 (c0 : Nat) (x1 : Int32) (K4 : Int32 → Int32 → Option Int32) (x2 : Int32) (x3 : Int32) (σ : x_S) : Option Int32 :=
  if (σ c0 5) ≤ x3 then (some x2) else (x_p (fX2_isSeen c0 x3 x1 σ) (fun r3 => if r3 = 0 then (K4 (x2 ||| 0) (x3 + 1)) else (K4 (x2 ||| (1 <<< (x3 &&& 31))) (x3 + 1))))
def bX2_gesturesSeenIn_4 (c0 : Nat) (x1 : Int32) (x2 : Int32) (x3 : Int32) (σ : x_S) : Option Int32 :=
  x_fx (α := Int32 → Int32 → Option Int32) (fun _ _ => none) (fun K => fun x2 x3 => gX2_gesturesSeenIn_4  c0 x1 K x2 x3 σ) x_F x2 x3
def fX2_gesturesSeenIn (c0 : Nat) (a1 : Int32) (σ : x_S) : Option Int32 :=
  bX2_gesturesSeenIn_4 c0 a1 0 0 σ
def fX7_street (a1 : Int32) (a2 : Int32) (σ : x_S) : Option Int32 :=
  x_p (fX7_isStreet a1 σ) (fun r2 => if r2 = 0 then (some (-1000001)) else (if a2 = 0 then (x_g (x_in a1 7) (some (σ 33 a1.toNatClampNeg))) else (if a2 = 1 then (x_g (x_in a1 7) (some (σ 34 a1.toNatClampNeg))) else (if a2 = 2 then (x_p (fX2_isKnown 32 a1 σ) (fun r10 => if r10 = 0 then (some 0) else (some 1))) else (if a2 = 3 then (x_p (fX2_gesturesSeenIn 32 a1 σ) (fun r14 => some r14)) else (some (-1000001)))))))
def fX7_duty (a1 : Int32) (a2 : Int32) (σ : x_S) : Option Int32 :=
  x_p (fX7_isGesture a1 σ) (fun r2 => if r2 = 0 then (some (-1000001)) else (x_p (fX7_isStreet a2 σ) (fun r5 => if r5 = 0 then (some (-1000001)) else (x_p (fX2_owes 32 a1 a2 σ) (fun r8 => some r8)))))
def fX7_isMeaning (a0 : Int32) (σ : x_S) : Option Int32 :=
  x_p (fX7_isWithin a0 0 3 σ) (fun r2 => x_g (r2 &&& 1 = r2) (some r2))
def fX7_isStretch (a1 : Int32) (a2 : Int32) (σ : x_S) : Option Int32 :=
  x_p (fX7_isStreet a1 σ) (fun r2 => if r2 = 0 then (some 0) else (x_p (fX7_isStreet a2 σ) (fun r5 => if r5 = 0 then (some 0) else (if a2 < a1 then (some 0) else (some 1)))))
def fX2_tells (c0 : Nat) (a1 : Int32) (a2 : Int32) (a3 : Int32) (σ : x_S) : Option Int32 :=
  x_g (x_in a1 6) (if (σ (c0 + 5) a1.toNatClampNeg) = a2 then (x_p (fX2_isSeen c0 a1 a3 σ) (fun r4 => if r4 = 0 then (some 0) else (some 1))) else (some 0))
def gX6_offer_3 (x1 : Int32) (x2 : Int32) (x3 : Int32) (x4 : Int32) (K3 : Int32 → x_S → Option x_S) (x5 : Int32) (σ : x_S) : Option x_S :=
  if x4 < x5 then (some σ) else (x_g (x_in x3 8) (x_g (x_in x3 8) (x_g (x_in x5 100) (x_g (x_in (x3 + 1) 8) (x_g (x_in (x5 - x2) 100) (x_g (x_in x5 100) (x_w (x_u σ (22 + x3.toNatClampNeg) x5.toNatClampNeg (if (x1 + (σ (22 + (x3 + 1).toNatClampNeg) (x5 - x2).toNatClampNeg)) < (σ (22 + x3.toNatClampNeg) x5.toNatClampNeg) then (x1 + (σ (22 + (x3 + 1).toNatClampNeg) (x5 - x2).toNatClampNeg)) else (σ (22 + x3.toNatClampNeg) x5.toNatClampNeg))) (fun σ8 => K3 (x5 + 1) σ8))))))))
def bX6_offer_3 (x1 : Int32) (x2 : Int32) (x3 : Int32) (x4 : Int32) (x5 : Int32) (σ : x_S) : Option x_S :=
  x_fx (α := Int32 → x_S → Option x_S) (fun _ _ => none) (fun K => fun x5 σ => gX6_offer_3  x1 x2 x3 x4 K x5 σ) x_F x5 σ
def fX6_offer (a1 : Int32) (a2 : Int32) (a3 : Int32) (a4 : Int32) (σ : x_S) : Option x_S :=
  bX6_offer_3 a1 a2 a3 a4 a2 σ
def gX6_fill_70 (K33 : Int32 → x_S → Option x_S) (c1 : Nat) (x2 : Int32) (x3 : Int32) (x5 : Int32) (x6 : Int32) (K70 : Int32 → x_S → Option x_S) (x7 : Int32) (σ : x_S) : Option x_S :=
  if (σ c1 5) ≤ x7 then (K33 (x6 + (-1)) σ) else (x_p (fX2_tells c1 x7 x2 x6 σ) (fun r3 => if r3 = 0 then (K70 (x7 + 1) σ) else (x_p (fX2_owes c1 x7 x6 σ) (fun r6 => x_g (x_in x7 6) (x_v (fX6_offer r6 (σ (c1 + 6) x7.toNatClampNeg) x6 x5 σ) (fun σ9 => K70 (x7 + 1) σ9))))))
def bX6_fill_70 (K33 : Int32 → x_S → Option x_S) (c1 : Nat) (x2 : Int32) (x3 : Int32) (x5 : Int32) (x6 : Int32) (x7 : Int32) (σ : x_S) : Option x_S :=
  x_fx (α := Int32 → x_S → Option x_S) (fun _ _ => none) (fun K => fun x7 σ => gX6_fill_70 K33 c1 x2 x3 x5 x6 K x7 σ) x_F x7 σ
def gX6_fill_42 (K33 : Int32 → x_S → Option x_S) (c1 : Nat) (x2 : Int32) (x3 : Int32) (x5 : Int32) (x6 : Int32) (K42 : Int32 → x_S → Option x_S) (x7 : Int32) (σ : x_S) : Option x_S :=
  if x5 < x7 then (bX6_fill_70 K33 c1 x2 x3 x5 x6 0 σ) else (x_g (x_in x6 8) (x_g (x_in x7 100) (x_w (x_u σ (22 + x6.toNatClampNeg) x7.toNatClampNeg 1000000) (fun σ4 => K42 (x7 + 1) σ4))))
def bX6_fill_42 (K33 : Int32 → x_S → Option x_S) (c1 : Nat) (x2 : Int32) (x3 : Int32) (x5 : Int32) (x6 : Int32) (x7 : Int32) (σ : x_S) : Option x_S :=
  x_fx (α := Int32 → x_S → Option x_S) (fun _ _ => none) (fun K => fun x7 σ => gX6_fill_42 K33 c1 x2 x3 x5 x6 K x7 σ) x_F x7 σ
def gX6_fill_33 (c1 : Nat) (x2 : Int32) (x3 : Int32) (x5 : Int32) (K33 : Int32 → x_S → Option x_S) (x6 : Int32) (σ : x_S) : Option x_S :=
  if x6 < x3 then (some σ) else (bX6_fill_42 K33 c1 x2 x3 x5 x6 0 σ)
def bX6_fill_33 (c1 : Nat) (x2 : Int32) (x3 : Int32) (x5 : Int32) (x6 : Int32) (σ : x_S) : Option x_S :=
  x_fx (α := Int32 → x_S → Option x_S) (fun _ _ => none) (fun K => fun x6 σ => gX6_fill_33  c1 x2 x3 x5 K x6 σ) x_F x6 σ
def gX6_fill_3 (c1 : Nat) (x2 : Int32) (x3 : Int32) (x4 : Int32) (x5 : Int32) (K3 : Int32 → x_S → Option x_S) (x6 : Int32) (σ : x_S) : Option x_S :=
  if x5 < x6 then (bX6_fill_33 c1 x2 x3 x5 x4 σ) else (x_g (x_in (x4 + 1) 8) (x_g (x_in x6 100) (x_w (x_u σ (22 + (x4 + 1).toNatClampNeg) x6.toNatClampNeg 0) (fun σ4 => K3 (x6 + 1) σ4))))
def bX6_fill_3 (c1 : Nat) (x2 : Int32) (x3 : Int32) (x4 : Int32) (x5 : Int32) (x6 : Int32) (σ : x_S) : Option x_S :=
  x_fx (α := Int32 → x_S → Option x_S) (fun _ _ => none) (fun K => fun x6 σ => gX6_fill_3  c1 x2 x3 x4 x5 K x6 σ) x_F x6 σ
def fX6_fill (c1 : Nat) (a2 : Int32) (a3 : Int32) (a4 : Int32) (a5 : Int32) (σ : x_S) : Option x_S :=
  bX6_fill_3 c1 a2 a3 a4 a5 0 σ
def fX6_leastDuty (c1 : Nat) (a2 : Int32) (a3 : Int32) (a4 : Int32) (a5 : Int32) (σ : x_S) : Option (Int32 × x_S) :=
  x_v (fX6_fill c1 a2 a3 a4 a5 σ) (fun σ2 => x_g (x_in a3 8) (x_g (x_in a5 100) (if 1000000 ≤ (σ2 (22 + a3.toNatClampNeg) a5.toNatClampNeg) then (some ((-1000000), σ2)) else (x_g (x_in a3 8) (x_g (x_in a5 100) (some ((σ2 (22 + a3.toNatClampNeg) a5.toNatClampNeg), σ2)))))))
def gX6_firstOfCheapest_3 (c1 : Nat) (x2 : Int32) (x3 : Int32) (x4 : Int32) (K3 : Int32 → Option Int32) (x5 : Int32) (σ : x_S) : Option Int32 :=
  if (σ c1 5) ≤ x5 then (some (-1000000)) else (x_g (x_in x5 6) (if (x4 - (σ (c1 + 6) x5.toNatClampNeg)) < 0 then (K3 (x5 + 1)) else (x_p (fX2_tells c1 x5 x2 x3 σ) (fun r5 => if r5 = 0 then (K3 (x5 + 1)) else (x_p (fX2_owes c1 x5 x3 σ) (fun r8 => x_g (x_in (x3 + 1) 8) (x_g (x_in (x4 - (σ (c1 + 6) x5.toNatClampNeg)) 100) (x_g (x_in x3 8) (x_g (x_in x4 100) (if (r8 + (σ (22 + (x3 + 1).toNatClampNeg) (x4 - (σ (c1 + 6) x5.toNatClampNeg)).toNatClampNeg)) = (σ (22 + x3.toNatClampNeg) x4.toNatClampNeg) then (some x5) else (K3 (x5 + 1))))))))))))
def bX6_firstOfCheapest_3 (c1 : Nat) (x2 : Int32) (x3 : Int32) (x4 : Int32) (x5 : Int32) (σ : x_S) : Option Int32 :=
  x_fx (α := Int32 → Option Int32) (fun _ => none) (fun K => fun x5 => gX6_firstOfCheapest_3  c1 x2 x3 x4 K x5 σ) x_F x5
def fX6_firstOfCheapest (c1 : Nat) (a2 : Int32) (a3 : Int32) (a4 : Int32) (σ : x_S) : Option Int32 :=
  bX6_firstOfCheapest_3 c1 a2 a3 a4 0 σ
def gX6_gestureOfCheapest_48 (c1 : Nat) (x2 : Int32) (x3 : Int32) (x6 : Int32) (K48 : Int32 → Int32 → Int32 → x_S → Option (Int32 × x_S)) (x7 : Int32) (x8 : Int32) (x9 : Int32) (σ : x_S) : Option (Int32 × x_S) :=
  if (x3 + x6) < x9 then (some (x8, σ)) else (x_p (fX6_firstOfCheapest c1 x2 x9 x7 σ) (fun r3 => if r3 = (-1000000) then (some ((-1000000), σ)) else (x_g (x_in r3 6) (K48 (x7 - (σ (c1 + 6) r3.toNatClampNeg)) r3 (x9 + 1) σ))))
def bX6_gestureOfCheapest_48 (c1 : Nat) (x2 : Int32) (x3 : Int32) (x6 : Int32) (x7 : Int32) (x8 : Int32) (x9 : Int32) (σ : x_S) : Option (Int32 × x_S) :=
  x_fx (α := Int32 → Int32 → Int32 → x_S → Option (Int32 × x_S)) (fun _ _ _ _ => none) (fun K => fun x7 x8 x9 σ => gX6_gestureOfCheapest_48  c1 x2 x3 x6 K x7 x8 x9 σ) x_F x7 x8 x9 σ
def fX6_gestureOfCheapest (c1 : Nat) (a2 : Int32) (a3 : Int32) (a4 : Int32) (a5 : Int32) (a6 : Int32) (σ : x_S) : Option (Int32 × x_S) :=
  x_v (fX6_fill c1 a2 a3 a4 a5 σ) (fun σ2 => if (a4 - a3) < a6 then (some ((-1000000), σ2)) else (x_g (x_in a3 8) (x_g (x_in a5 100) (if (σ2 (22 + a3.toNatClampNeg) a5.toNatClampNeg) < 1000000 then (bX6_gestureOfCheapest_48 c1 a2 a3 a6 a5 (-1000000) a3 σ2) else (some ((-1000000), σ2))))))
def fX7_tell (a1 : Int32) (a2 : Int32) (a3 : Int32) (a4 : Int32) (a5 : Int32) (σ : x_S) : Option (Int32 × x_S) :=
  x_p (fX7_isMeaning a1 σ) (fun r2 => if r2 = 0 then (some ((-1000001), σ)) else (x_p (fX7_isStretch a2 a3 σ) (fun r5 => if r5 = 0 then (some ((-1000001), σ)) else (x_p (fX7_isWithin a4 0 99 σ) (fun r8 => if r8 = 0 then (some ((-1000001), σ)) else (x_p (fX7_isWithin a5 (-1) 6 σ) (fun r11 => if r11 = 0 then (some ((-1000001), σ)) else (if 0 ≤ a5 then (x_b (fX6_gestureOfCheapest 32 a1 a2 a3 a4 a5 σ) (fun r15 σ16 => some (r15, σ16))) else (x_b (fX6_leastDuty 32 a1 a2 a3 a4 σ) (fun r18 σ19 => some (r18, σ19)))))))))))
def bX2_leastTime_43 (K6 : Int32 → Int32 → Option Int32) (c0 : Nat) (x1 : Int32) (x2 : Int32) (x4 : Int32) (σ : x_S) : Option Int32 :=
  x_g (x_in x4 6) (K6 (σ (c0 + 6) x4.toNatClampNeg) (x4 + 1))
def gX2_leastTime_6 (c0 : Nat) (x1 : Int32) (x2 : Int32) (K6 : Int32 → Int32 → Option Int32) (x3 : Int32) (x4 : Int32) (σ : x_S) : Option Int32 :=
  if (σ c0 5) ≤ x4 then (some x3) else (x_p (fX2_tells c0 x4 x1 x2 σ) (fun r3 => if r3 = 0 then (K6 x3 (x4 + 1)) else (if x3 = (-1000000) then (bX2_leastTime_43 K6 c0 x1 x2 x4 σ) else (x_g (x_in x4 6) (if x3 ≤ (σ (c0 + 6) x4.toNatClampNeg) then (K6 x3 (x4 + 1)) else (bX2_leastTime_43 K6 c0 x1 x2 x4 σ))))))
def bX2_leastTime_6 (c0 : Nat) (x1 : Int32) (x2 : Int32) (x3 : Int32) (x4 : Int32) (σ : x_S) : Option Int32 :=
  x_fx (α := Int32 → Int32 → Option Int32) (fun _ _ => none) (fun K => fun x3 x4 => gX2_leastTime_6  c0 x1 x2 K x3 x4 σ) x_F x3 x4
def fX2_leastTime (c0 : Nat) (a1 : Int32) (a2 : Int32) (σ : x_S) : Option Int32 :=
  bX2_leastTime_6 c0 a1 a2 (-1000000) 0 σ
def gX2_streetsWithout_4 (c0 : Nat) (x1 : Int32) (K4 : Int32 → Int32 → Option Int32) (x2 : Int32) (x3 : Int32) (σ : x_S) : Option Int32 :=
  if (σ c0 3) ≤ x3 then (some x2) else (x_p (fX2_leastTime c0 x1 x3 σ) (fun r3 => if r3 = (-1000000) then (K4 (x2 ||| (1 <<< (x3 &&& 31))) (x3 + 1)) else (K4 (x2 ||| 0) (x3 + 1))))
def bX2_streetsWithout_4 (c0 : Nat) (x1 : Int32) (x2 : Int32) (x3 : Int32) (σ : x_S) : Option Int32 :=
  x_fx (α := Int32 → Int32 → Option Int32) (fun _ _ => none) (fun K => fun x2 x3 => gX2_streetsWithout_4  c0 x1 K x2 x3 σ) x_F x2 x3
def fX2_streetsWithout (c0 : Nat) (a1 : Int32) (σ : x_S) : Option Int32 :=
  bX2_streetsWithout_4 c0 a1 0 0 σ
def fX7_shut (a1 : Int32) (σ : x_S) : Option Int32 :=
  if (σ 32 0) = 0 then (some (-1000002)) else (x_p (fX7_isMeaning a1 σ) (fun r3 => if r3 = 0 then (some (-1000001)) else (x_p (fX2_streetsWithout 32 a1 σ) (fun r6 => some r6))))
def gX7_quick_25 (x1 : Int32) (x3 : Int32) (K25 : Int32 → Int32 → Option Int32) (x4 : Int32) (x5 : Int32) (σ : x_S) : Option Int32 :=
  if x3 < x5 then (some x4) else (x_p (fX2_leastTime 32 x1 x5 σ) (fun r3 => if r3 = (-1000000) then (some (-1000000)) else (K25 (x4 + r3) (x5 + 1))))
def bX7_quick_25 (x1 : Int32) (x3 : Int32) (x4 : Int32) (x5 : Int32) (σ : x_S) : Option Int32 :=
  x_fx (α := Int32 → Int32 → Option Int32) (fun _ _ => none) (fun K => fun x4 x5 => gX7_quick_25  x1 x3 K x4 x5 σ) x_F x4 x5
def fX7_quick (a1 : Int32) (a2 : Int32) (a3 : Int32) (σ : x_S) : Option Int32 :=
  x_p (fX7_isMeaning a1 σ) (fun r2 => if r2 = 0 then (some (-1000001)) else (x_p (fX7_isStretch a2 a3 σ) (fun r5 => if r5 = 0 then (some (-1000001)) else (bX7_quick_25 a1 a3 0 a2 σ))))
def fX5_at (a1 : Int32) (a2 : Int32) (σ : x_S) : Option Int32 :=
  x_g (x_in a1 8) (x_g (x_in a2 40) (some (σ (3 + a1.toNatClampNeg) a2.toNatClampNeg)))
def gX7_refusalOfThread_49 (x1 : Int32) (x2 : Int32) (x3 : Int32) (K49 : Int32 → x_S → Option (Int32 × x_S)) (x5 : Int32) (σ : x_S) : Option (Int32 × x_S) :=
  if x3 ≤ x5 then (some (0, σ)) else (x_p (fX5_at x1 (x2 + (2 * x5)) σ) (fun r3 => x_p (fX7_isStreet r3 σ) (fun r5 => if r5 = 0 then (some ((-1000001), σ)) else (K49 (x5 + 1) σ))))
def bX7_refusalOfThread_49 (x1 : Int32) (x2 : Int32) (x3 : Int32) (x5 : Int32) (σ : x_S) : Option (Int32 × x_S) :=
  x_fx (α := Int32 → x_S → Option (Int32 × x_S)) (fun _ _ => none) (fun K => fun x5 σ => gX7_refusalOfThread_49  x1 x2 x3 K x5 σ) x_F x5 σ
def fX7_refusalOfThread (a1 : Int32) (a2 : Int32) (a3 : Int32) (σ : x_S) : Option (Int32 × x_S) :=
  x_p (fX5_isRow a1 σ) (fun r2 => if r2 = 0 then (some ((-1000001), σ)) else (x_p (fX7_isWithin a3 1 12 σ) (fun r5 => if r5 = 0 then (some ((-1000001), σ)) else (x_p (fX5_findingOf a1 a2 (2 * a3) σ) (fun r8 => if r8 = 0 then (bX7_refusalOfThread_49 a1 a2 a3 0 σ) else (x_b (fX7_found r8 σ) (fun r11 σ12 => some (r11, σ12))))))))
def gX7_owesAlong_3 (x1 : Int32) (x2 : Int32) (x3 : Int32) (x4 : Int32) (x5 : Int32) (K3 : Int32 → Option Int32) (x6 : Int32) (σ : x_S) : Option Int32 :=
  if x5 ≤ x6 then (some 1) else (x_p (fX5_at x3 (x4 + (2 * x6)) σ) (fun r3 => x_p (fX5_at x3 ((x4 + (2 * x6)) + 1) σ) (fun r5 => x_p (fX7_isStreet r3 σ) (fun r7 => if r7 = 0 then (some 0) else (x_p (fX2_owesSuch 32 x1 x2 r3 σ) (fun r10 => if r10 = r5 then (K3 (x6 + 1)) else (some 0)))))))
def bX7_owesAlong_3 (x1 : Int32) (x2 : Int32) (x3 : Int32) (x4 : Int32) (x5 : Int32) (x6 : Int32) (σ : x_S) : Option Int32 :=
  x_fx (α := Int32 → Option Int32) (fun _ => none) (fun K => fun x6 => gX7_owesAlong_3  x1 x2 x3 x4 x5 K x6 σ) x_F x6
def fX7_owesAlong (a1 : Int32) (a2 : Int32) (a3 : Int32) (a4 : Int32) (a5 : Int32) (σ : x_S) : Option Int32 :=
  bX7_owesAlong_3 a1 a2 a3 a4 a5 0 σ
def gX7_isSeenAlong_3 (x1 : Int32) (x2 : Int32) (x3 : Int32) (x4 : Int32) (K3 : Int32 → Option Int32) (x5 : Int32) (σ : x_S) : Option Int32 :=
  if x4 ≤ x5 then (some 1) else (x_p (fX5_at x2 (x3 + (2 * x5)) σ) (fun r3 => x_p (fX7_isStreet r3 σ) (fun r5 => if r5 = 0 then (some 0) else (x_p (fX2_isSeen 32 x1 r3 σ) (fun r8 => if r8 = 0 then (some 0) else (K3 (x5 + 1)))))))
def bX7_isSeenAlong_3 (x1 : Int32) (x2 : Int32) (x3 : Int32) (x4 : Int32) (x5 : Int32) (σ : x_S) : Option Int32 :=
  x_fx (α := Int32 → Option Int32) (fun _ => none) (fun K => fun x5 => gX7_isSeenAlong_3  x1 x2 x3 x4 K x5 σ) x_F x5
def fX7_isSeenAlong (a1 : Int32) (a2 : Int32) (a3 : Int32) (a4 : Int32) (σ : x_S) : Option Int32 :=
  bX7_isSeenAlong_3 a1 a2 a3 a4 0 σ
def gX7_thread_36 (x1 : Int32) (x2 : Int32) (x3 : Int32) (K36 : Int32 → Int32 → x_S → Option (Int32 × x_S)) (x5 : Int32) (x6 : Int32) (σ : x_S) : Option (Int32 × x_S) :=
  if (σ 32 5) ≤ x6 then (x_b (fX7_foundNothing x5 σ) (fun r3 σ4 => some (r3, σ4))) else (x_g (x_in x6 6) (x_g (x_in x6 6) (x_p (fX7_owesAlong (σ 35 x6.toNatClampNeg) (σ 36 x6.toNatClampNeg) x1 x2 x3 σ) (fun r8 => if r8 = 0 then (K36 x5 (x6 + 1) σ) else (x_p (fX7_isSeenAlong x6 x1 x2 x3 σ) (fun r11 => if r11 = 0 then (K36 x5 (x6 + 1) σ) else (K36 (x5 ||| (1 <<< (x6 &&& 31))) (x6 + 1) σ)))))))
def bX7_thread_36 (x1 : Int32) (x2 : Int32) (x3 : Int32) (x5 : Int32) (x6 : Int32) (σ : x_S) : Option (Int32 × x_S) :=
  x_fx (α := Int32 → Int32 → x_S → Option (Int32 × x_S)) (fun _ _ _ => none) (fun K => fun x5 x6 σ => gX7_thread_36  x1 x2 x3 K x5 x6 σ) x_F x5 x6 σ
def fX7_thread (a1 : Int32) (a2 : Int32) (a3 : Int32) (σ : x_S) : Option (Int32 × x_S) :=
  if (σ 32 0) = 0 then (some ((-1000002), σ)) else (x_b (fX7_refusalOfThread a1 a2 a3 σ) (fun r3 σ4 => if r3 = 0 then (bX7_thread_36 a1 a2 a3 0 0 σ4) else (some (r3, σ4))))
def gX7_inches_37 (x1 : Int32) (x2 : Int32) (x3 : Int32) (x4 : Int32) (K37 : Int32 → Int32 → x_S → Option (Int32 × x_S)) (x6 : Int32) (x7 : Int32) (σ : x_S) : Option (Int32 × x_S) :=
  if 30 < x7 then (x_b (fX7_foundNothing x6 σ) (fun r3 σ4 => some (r3, σ4))) else (x_g (x_in x1 6) (x_p (fX7_owesAlong (σ 35 x1.toNatClampNeg) x7 x2 x3 x4 σ) (fun r7 => if r7 = 0 then (K37 x6 (x7 + 1) σ) else (K37 (x6 ||| (1 <<< ((x7 - 1) &&& 31))) (x7 + 1) σ))))
def bX7_inches_37 (x1 : Int32) (x2 : Int32) (x3 : Int32) (x4 : Int32) (x6 : Int32) (x7 : Int32) (σ : x_S) : Option (Int32 × x_S) :=
  x_fx (α := Int32 → Int32 → x_S → Option (Int32 × x_S)) (fun _ _ _ => none) (fun K => fun x6 x7 σ => gX7_inches_37  x1 x2 x3 x4 K x6 x7 σ) x_F x6 x7 σ
def bX7_inches_21 (x1 : Int32) (x2 : Int32) (x3 : Int32) (x4 : Int32) (y0 : Int32) (σ : x_S) : Option (Int32 × x_S) :=
  if y0 = 0 then (bX7_inches_37 x1 x2 x3 x4 0 1 σ) else (some (y0, σ))
def fX7_inches (a1 : Int32) (a2 : Int32) (a3 : Int32) (a4 : Int32) (σ : x_S) : Option (Int32 × x_S) :=
  x_p (fX7_isGesture a1 σ) (fun r2 => if r2 = 0 then (bX7_inches_21 a1 a2 a3 a4 (-1000001) σ) else (x_b (fX7_refusalOfThread a2 a3 a4 σ) (fun r5 σ6 => bX7_inches_21 a1 a2 a3 a4 r5 σ6)))
def gX7_sorts_37 (x1 : Int32) (x2 : Int32) (x3 : Int32) (x4 : Int32) (K37 : Int32 → Int32 → x_S → Option (Int32 × x_S)) (x6 : Int32) (x7 : Int32) (σ : x_S) : Option (Int32 × x_S) :=
  if 5 < x7 then (x_b (fX7_foundNothing x6 σ) (fun r3 σ4 => some (r3, σ4))) else (x_g (x_in x1 6) (x_p (fX7_owesAlong x7 (σ 36 x1.toNatClampNeg) x2 x3 x4 σ) (fun r7 => if r7 = 0 then (K37 x6 (x7 + 1) σ) else (K37 (x6 ||| (1 <<< (x7 &&& 31))) (x7 + 1) σ))))
def bX7_sorts_37 (x1 : Int32) (x2 : Int32) (x3 : Int32) (x4 : Int32) (x6 : Int32) (x7 : Int32) (σ : x_S) : Option (Int32 × x_S) :=
  x_fx (α := Int32 → Int32 → x_S → Option (Int32 × x_S)) (fun _ _ _ => none) (fun K => fun x6 x7 σ => gX7_sorts_37  x1 x2 x3 x4 K x6 x7 σ) x_F x6 x7 σ
def bX7_sorts_21 (x1 : Int32) (x2 : Int32) (x3 : Int32) (x4 : Int32) (y0 : Int32) (σ : x_S) : Option (Int32 × x_S) :=
  if y0 = 0 then (bX7_sorts_37 x1 x2 x3 x4 0 1 σ) else (some (y0, σ))
def fX7_sorts (a1 : Int32) (a2 : Int32) (a3 : Int32) (a4 : Int32) (σ : x_S) : Option (Int32 × x_S) :=
  x_p (fX7_isGesture a1 σ) (fun r2 => if r2 = 0 then (bX7_sorts_21 a1 a2 a3 a4 (-1000001) σ) else (x_b (fX7_refusalOfThread a2 a3 a4 σ) (fun r5 σ6 => bX7_sorts_21 a1 a2 a3 a4 r5 σ6)))
def fX2_owesIfKnown (c0 : Nat) (a1 : Int32) (a2 : Int32) (σ : x_S) : Option Int32 :=
  x_g (x_in a1 6) (x_g (x_in a1 6) (x_p (fX2_owesUnknown c0 (σ (c0 + 3) a1.toNatClampNeg) (σ (c0 + 4) a1.toNatClampNeg) a2 σ) (fun r4 => some (r4 / 2))))
def gX7_saved_15 (x1 : Int32) (K15 : Int32 → Int32 → Option Int32) (x2 : Int32) (x3 : Int32) (σ : x_S) : Option Int32 :=
  if (σ 32 3) ≤ x3 then (some x2) else (x_p (fX2_owes 32 x1 x3 σ) (fun r3 => x_p (fX2_owesIfKnown 32 x1 x3 σ) (fun r5 => K15 (x2 + (r3 - r5)) (x3 + 1))))
def bX7_saved_15 (x1 : Int32) (x2 : Int32) (x3 : Int32) (σ : x_S) : Option Int32 :=
  x_fx (α := Int32 → Int32 → Option Int32) (fun _ _ => none) (fun K => fun x2 x3 => gX7_saved_15  x1 K x2 x3 σ) x_F x2 x3
def fX7_saved (a1 : Int32) (σ : x_S) : Option Int32 :=
  x_p (fX7_isGesture a1 σ) (fun r2 => if r2 = 0 then (some (-1000001)) else (bX7_saved_15 a1 0 0 σ))
def gX2_dearestStreet_4 (c0 : Nat) (x1 : Int32) (K4 : Int32 → Int32 → Option Int32) (x2 : Int32) (x3 : Int32) (σ : x_S) : Option Int32 :=
  if (σ c0 3) ≤ x3 then (some x2) else (x_p (fX2_owes c0 x1 x3 σ) (fun r3 => x_p (fX2_owes c0 x1 x2 σ) (fun r5 => if r3 ≤ r5 then (K4 x2 (x3 + 1)) else (K4 x3 (x3 + 1)))))
def bX2_dearestStreet_4 (c0 : Nat) (x1 : Int32) (x2 : Int32) (x3 : Int32) (σ : x_S) : Option Int32 :=
  x_fx (α := Int32 → Int32 → Option Int32) (fun _ _ => none) (fun K => fun x2 x3 => gX2_dearestStreet_4  c0 x1 K x2 x3 σ) x_F x2 x3
def fX2_dearestStreet (c0 : Nat) (a1 : Int32) (σ : x_S) : Option Int32 :=
  bX2_dearestStreet_4 c0 a1 0 1 σ
def fX7_worst (a1 : Int32) (a2 : Int32) (σ : x_S) : Option Int32 :=
  x_p (fX7_isGesture a1 σ) (fun r2 => if r2 = 0 then (some (-1000001)) else (x_p (fX7_isWithin a2 0 1 σ) (fun r5 => if r5 = 0 then (some (-1000001)) else (if (σ 32 3) = 0 then (some (-1000000)) else (x_p (fX2_dearestStreet 32 a1 σ) (fun r9 => if a2 = 0 then (some r9) else (x_p (fX2_owes 32 a1 r9 σ) (fun r12 => some r12))))))))
def hX7_tenthsWithin (rec : Nat → Int32 → Int32 → Int32 → Int32 → Int32 → x_S → Option Int32) (c0 : Nat) (a1 : Int32) (a2 : Int32) (a3 : Int32) (a4 : Int32) (a5 : Int32) (σ : x_S) : Option Int32 :=
  if 0 ≤ a4 then (if a3 < a2 then (some 1) else (if a2 < 0 then (some 1) else (if a2 < 7 then (x_g (x_in a1 6) (x_g (x_in a1 6) (x_p (fX2_owesSuch c0 (σ (c0 + 3) a1.toNatClampNeg) (σ (c0 + 4) a1.toNatClampNeg) a2 σ) (fun r8 => x_p (fX2_owesSuch c0 (σ (c0 + 3) a1.toNatClampNeg) ((σ (c0 + 4) a1.toNatClampNeg) + 1) a2 σ) (fun r10 => x_p (rec c0 a1 (a2 + 1) a3 (a4 - r8) a5 σ) (fun r12 => x_p (rec c0 a1 (a2 + 1) a3 (a4 - r10) a5 σ) (fun r14 => some (((10 - a5) * r12) + (a5 * r14))))))))) else (some 1)))) else (some 0)
def fX7_tenthsWithin_n (n : Nat) : Nat → Int32 → Int32 → Int32 → Int32 → Int32 → x_S → Option Int32 :=
  x_fx (α := Nat → Int32 → Int32 → Int32 → Int32 → Int32 → x_S → Option Int32) (fun _ _ _ _ _ _ _ => none) (fun rec => fun c0 a1 a2 a3 a4 a5 σ => hX7_tenthsWithin rec c0 a1 a2 a3 a4 a5 σ) n
def fX7_tenthsWithin (c0 : Nat) (a1 : Int32) (a2 : Int32) (a3 : Int32) (a4 : Int32) (a5 : Int32) (σ : x_S) : Option Int32 := fX7_tenthsWithin_n 12 c0 a1 a2 a3 a4 a5 σ
def gX7_commonDivisor_7 (K7 : Int32 → Int32 → Int32 → Option Int32) (x2 : Int32) (x3 : Int32) (x4 : Int32) (σ : x_S) : Option Int32 :=
  if 100 ≤ x4 then (some x2) else (if x3 = 0 then (some x2) else (x_g (¬ x3 = 0) (K7 x3 (x2 - x2 / x3 * x3) (x4 + 1))))
def bX7_commonDivisor_7 (x2 : Int32) (x3 : Int32) (x4 : Int32) (σ : x_S) : Option Int32 :=
  x_fx (α := Int32 → Int32 → Int32 → Option Int32) (fun _ _ _ => none) (fun K => fun x2 x3 x4 => gX7_commonDivisor_7   K x2 x3 x4 σ) x_F x2 x3 x4
def fX7_commonDivisor (a0 : Int32) (a1 : Int32) (σ : x_S) : Option Int32 :=
  bX7_commonDivisor_7 a0 a1 0 σ
def gX7_tremble_78 (x3 : Int32) (x6 : Int32) (x7 : Int32) (K78 : Int32 → Int32 → Option Int32) (x8 : Int32) (x9 : Int32) (σ : x_S) : Option Int32 :=
  if x3 < x9 then (x_p (fX7_commonDivisor x7 x8 σ) (fun r3 => if x6 = 0 then (x_g (¬ (if 1 < r3 then r3 else 1) = 0) (some (x7 / (if 1 < r3 then r3 else 1)))) else (x_g (¬ (if 1 < r3 then r3 else 1) = 0) (some (x8 / (if 1 < r3 then r3 else 1)))))) else (K78 (x8 * 10) (x9 + 1))
def bX7_tremble_78 (x3 : Int32) (x6 : Int32) (x7 : Int32) (x8 : Int32) (x9 : Int32) (σ : x_S) : Option Int32 :=
  x_fx (α := Int32 → Int32 → Option Int32) (fun _ _ => none) (fun K => fun x8 x9 => gX7_tremble_78  x3 x6 x7 K x8 x9 σ) x_F x8 x9
def fX7_tremble (a1 : Int32) (a2 : Int32) (a3 : Int32) (a4 : Int32) (a5 : Int32) (a6 : Int32) (σ : x_S) : Option Int32 :=
  x_p (fX7_isGesture a1 σ) (fun r2 => if r2 = 0 then (some (-1000001)) else (x_p (fX7_isStretch a2 a3 σ) (fun r5 => if r5 = 0 then (some (-1000001)) else (x_p (fX7_isWithin a4 0 9999 σ) (fun r8 => if r8 = 0 then (some (-1000001)) else (x_p (fX7_isWithin a5 0 10 σ) (fun r11 => if r11 = 0 then (some (-1000001)) else (x_p (fX7_isWithin a6 0 1 σ) (fun r14 => if r14 = 0 then (some (-1000001)) else (x_p (fX7_tenthsWithin 32 a1 a2 a3 a4 a5 σ) (fun r17 => bX7_tremble_78 a3 a6 r17 1 a2 σ)))))))))))
def fX7_image (a1 : Int32) (σ : x_S) : Option (Int32 × x_S) :=
  x_p (fX7_isWithin a1 0 1 σ) (fun r2 => if r2 = 0 then (some ((-1000001), σ)) else (if (σ 32 0) = 0 then (some ((-1000002), σ)) else (x_g (x_in a1 2) (x_v (fX2_become (48 + 8 * a1.toNatClampNeg) 32 σ) (fun σ7 => some (1, σ7))))))
def fX7_restore (a1 : Int32) (σ : x_S) : Option (Int32 × x_S) :=
  x_p (fX7_isWithin a1 0 1 σ) (fun r2 => if r2 = 0 then (some ((-1000001), σ)) else (x_g (x_in a1 2) (if (σ (48 + 8 * a1.toNatClampNeg) 0) = 0 then (some ((-1000002), σ)) else (x_g (x_in a1 2) (x_v (fX2_become 32 (48 + 8 * a1.toNatClampNeg) σ) (fun σ8 => x_v (fX0_forgetAll σ8) (fun σ10 => some (1, σ10))))))))
def fX7_kind (a1 : Int32) (σ : x_S) : Option Int32 :=
  x_p (fX7_isGesture a1 σ) (fun r2 => if r2 = 0 then (some (-1000001)) else (x_g (x_in a1 6) (some (σ 35 a1.toNatClampNeg))))
def fX3_widerThan (a0 : Int32) (σ : x_S) : Option Int32 :=
  if a0 < 0 then (some 0) else (if 6 ≤ a0 then (some 0) else (x_g (x_in a0 6) (some (s_t 0 a0.toNatClampNeg))))
def bX3_isOneOf_28 (x1 : Int32) (x2 : Int32) (σ : x_S) : Option Int32 :=
  if x2 = x1 then (some 1) else (some 0)
def gX3_isOneOf_4 (x1 : Int32) (K4 : Int32 → Int32 → Option Int32) (x2 : Int32) (x3 : Int32) (σ : x_S) : Option Int32 :=
  if 6 ≤ x3 then (bX3_isOneOf_28 x1 x2 σ) else (if x2 = x1 then (bX3_isOneOf_28 x1 x2 σ) else (x_p (fX3_widerThan x2 σ) (fun r4 => K4 r4 (x3 + 1))))
def bX3_isOneOf_4 (x1 : Int32) (x2 : Int32) (x3 : Int32) (σ : x_S) : Option Int32 :=
  x_fx (α := Int32 → Int32 → Option Int32) (fun _ _ => none) (fun K => fun x2 x3 => gX3_isOneOf_4  x1 K x2 x3 σ) x_F x2 x3
def fX3_isOneOf (a0 : Int32) (a1 : Int32) (σ : x_S) : Option Int32 :=
  bX3_isOneOf_4 a1 a0 0 σ
def fX7_as (a1 : Int32) (a2 : Int32) (σ : x_S) : Option (Int32 × x_S) :=
  x_p (fX7_isGesture a1 σ) (fun r2 => if r2 = 0 then (some ((-1000001), σ)) else (x_p (fX7_isWithin a2 0 5 σ) (fun r5 => if r5 = 0 then (some ((-1000001), σ)) else (x_g (x_in a1 6) (x_p (fX3_isOneOf (σ 35 a1.toNatClampNeg) a2 σ) (fun r9 => if r9 = 0 then (x_b (fX7_found 3 σ) (fun r12 σ13 => some (r12, σ13))) else (x_b (fX7_foundNothing a1 σ) (fun r15 σ16 => some (r15, σ16)))))))))
def bX1_bodyFor_30 (K4 : Int32 → Int32 → Option Int32) (b0 : Nat) (x2 : Int32) (x3 : Int32) (σ : x_S) : Option Int32 :=
  x_p (fX3_widerThan x2 σ) (fun r2 => K4 r2 (x3 + 1))
def gX1_bodyFor_4 (b0 : Nat) (K4 : Int32 → Int32 → Option Int32) (x2 : Int32) (x3 : Int32) (σ : x_S) : Option Int32 :=
  if 6 ≤ x3 then (some 0) else (if x2 < 0 then (bX1_bodyFor_30 K4 b0 x2 x3 σ) else (if 6 ≤ x2 then (bX1_bodyFor_30 K4 b0 x2 x3 σ) else (x_g (x_in x2 6) (if (s_t b0 x2.toNatClampNeg) = 0 then (bX1_bodyFor_30 K4 b0 x2 x3 σ) else (x_g (x_in x2 6) (some (s_t b0 x2.toNatClampNeg)))))))
def bX1_bodyFor_4 (b0 : Nat) (x2 : Int32) (x3 : Int32) (σ : x_S) : Option Int32 :=
  x_fx (α := Int32 → Int32 → Option Int32) (fun _ _ => none) (fun K => fun x2 x3 => gX1_bodyFor_4  b0 K x2 x3 σ) x_F x2 x3
def fX1_bodyFor (b0 : Nat) (a1 : Int32) (σ : x_S) : Option Int32 :=
  bX1_bodyFor_4 b0 a1 0 σ
def bX1_asked_13 (rec : Int32 → Nat → Int32 → Int32 → x_S → Option (Int32 × x_S)) (c1 : Nat) (x2 : Int32) (x4 : Int32) (yb0 : Nat) (σ : x_S) : Option (Int32 × x_S) :=
  x_g (x_in x2 6) (x_p (fX1_bodyFor yb0 (σ (c1 + 3) x2.toNatClampNeg) σ) (fun r3 => x_b (rec r3 c1 x2 x4 σ) (fun r5 σ6 => some (r5, σ6))))
def fX1_asked (rec : Int32 → Nat → Int32 → Int32 → x_S → Option (Int32 × x_S)) (c1 : Nat) (a2 : Int32) (a3 : Int32) (a4 : Int32) (σ : x_S) : Option (Int32 × x_S) :=
  if a3 = 0 then (bX1_asked_13 rec c1 a2 a4 1 σ) else (bX1_asked_13 rec c1 a2 a4 2 σ)
def fX1_sizeBy (rec : Int32 → Nat → Int32 → Int32 → x_S → Option (Int32 × x_S)) (a1 : Int32) (c2 : Nat) (a3 : Int32) (a4 : Int32) (σ : x_S) : Option (Int32 × x_S) :=
  if a1 = 10 then (x_g (x_in a3 6) (some ((σ (c2 + 6) a3.toNatClampNeg), σ))) else (if a1 = 11 then (x_b (rec 10 c2 a3 a4 σ) (fun r5 σ6 => x_b (fX1_asked rec c2 a3 1 a4 σ6) (fun r8 σ9 => some ((r5 + r8), σ9)))) else (if a1 = 12 then (x_b (rec 11 c2 a3 a4 σ) (fun r12 σ13 => some ((-r12), σ13))) else (if a1 = 13 then (x_b (rec 10 c2 a3 a4 σ) (fun r16 σ17 => some ((r16 - 100), σ17))) else (if a1 = 14 then (x_b (rec 13 c2 a3 a4 σ) (fun r20 σ21 => some ((2 * r20), σ21))) else (some (0, σ))))))
def fX1_markBy (rec : Int32 → Nat → Int32 → Int32 → x_S → Option (Int32 × x_S)) (a1 : Int32) (c2 : Nat) (a3 : Int32) (a4 : Int32) (σ : x_S) : Option (Int32 × x_S) :=
  if a1 = 20 then (some (a3, σ)) else (if a1 = 21 then (x_b (rec 20 c2 a3 a4 σ) (fun r4 σ5 => x_g (x_in a3 6) (some ((r4 + (σ5 (c2 + 4) a3.toNatClampNeg)), σ5)))) else (if a1 = 22 then (x_b (rec 21 c2 a3 a4 σ) (fun r9 σ10 => some ((r9 - 1000), σ10))) else (if a1 = 23 then (x_b (rec 20 c2 a3 a4 σ) (fun r13 σ14 => x_b (fX1_asked rec c2 a3 0 a4 σ14) (fun r16 σ17 => some ((r13 - r16), σ17)))) else (if a1 = 24 then (x_b (rec 21 c2 a3 a4 σ) (fun r20 σ21 => some ((2 * r20), σ21))) else (some (0, σ))))))
def hX1_given (rec : Int32 → Nat → Int32 → Int32 → x_S → Option (Int32 × x_S)) (a1 : Int32) (c2 : Nat) (a3 : Int32) (a4 : Int32) (σ : x_S) : Option (Int32 × x_S) :=
  if a4 < 16 then (x_v (fX1_leave a1 σ) (fun σ3 => if 20 ≤ a1 then (x_b (fX1_markBy rec a1 c2 a3 (a4 + 1) σ3) (fun r6 σ7 => some (r6, σ7))) else (x_b (fX1_sizeBy rec a1 c2 a3 (a4 + 1) σ3) (fun r9 σ10 => some (r9, σ10))))) else (some (0, σ))
def fX1_given_n (n : Nat) : Int32 → Nat → Int32 → Int32 → x_S → Option (Int32 × x_S) :=
  x_fx (α := Int32 → Nat → Int32 → Int32 → x_S → Option (Int32 × x_S)) (fun _ _ _ _ _ => none) (fun rec => fun a1 c2 a3 a4 σ => hX1_given rec a1 c2 a3 a4 σ) n
def fX1_given (a1 : Int32) (c2 : Nat) (a3 : Int32) (a4 : Int32) (σ : x_S) : Option (Int32 × x_S) := fX1_given_n 12 a1 c2 a3 a4 σ
def fX1_answer (c1 : Nat) (a2 : Int32) (a3 : Int32) (σ : x_S) : Option (Int32 × x_S) :=
  x_w (x_u σ 30 1 0) (fun σ1 => x_b (fX1_asked (fX1_given_n 12) c1 a2 a3 0 σ1) (fun r4 σ5 => some (r4, σ5)))
def fX7_ask (a1 : Int32) (a2 : Int32) (σ : x_S) : Option (Int32 × x_S) :=
  x_p (fX7_isGesture a1 σ) (fun r2 => if r2 = 0 then (some ((-1000001), σ)) else (x_p (fX7_isWithin a2 0 1 σ) (fun r5 => if r5 = 0 then (some ((-1000001), σ)) else (x_b (fX1_answer 32 a1 a2 σ) (fun r8 σ9 => some (r8, σ9))))))
def fX1_numberLeft (a1 : Int32) (σ : x_S) : Option Int32 :=
  if a1 < 0 then (some (-1000000)) else (if (σ 30 1) ≤ a1 then (some (-1000000)) else (x_g (x_in a1 16) (some (σ 31 a1.toNatClampNeg))))
def fX7_trace (a1 : Int32) (σ : x_S) : Option Int32 :=
  x_p (fX1_numberLeft a1 σ) (fun r2 => some r2)
def gX5_howMany_4 (K4 : Int32 → Int32 → Option Int32) (x1 : Int32) (x2 : Int32) (σ : x_S) : Option Int32 :=
  if 8 ≤ x2 then (some x1) else (x_p (fX5_isMissing x2 σ) (fun r3 => if r3 = 0 then (K4 (x1 + 1) (x2 + 1)) else (K4 (x1 + 0) (x2 + 1))))
def bX5_howMany_4 (x1 : Int32) (x2 : Int32) (σ : x_S) : Option Int32 :=
  x_fx (α := Int32 → Int32 → Option Int32) (fun _ _ => none) (fun K => fun x1 x2 => gX5_howMany_4   K x1 x2 σ) x_F x1 x2
def fX5_howMany (σ : x_S) : Option Int32 :=
  bX5_howMany_4 0 0 σ
def fJ6_bitCount_0f7a4 (a0 : Int32) (σ : x_S) : Option Int32 :=
  some ((((((((a0 - (((a0.toUInt32 >>> ((1 : Int32).toUInt32 &&& Int32.toUInt32 31)).toInt32) &&& 1431655765)) &&& 858993459) + ((((a0 - (((a0.toUInt32 >>> ((1 : Int32).toUInt32 &&& Int32.toUInt32 31)).toInt32) &&& 1431655765)).toUInt32 >>> ((2 : Int32).toUInt32 &&& Int32.toUInt32 31)).toInt32) &&& 858993459)) + (((((a0 - (((a0.toUInt32 >>> ((1 : Int32).toUInt32 &&& Int32.toUInt32 31)).toInt32) &&& 1431655765)) &&& 858993459) + ((((a0 - (((a0.toUInt32 >>> ((1 : Int32).toUInt32 &&& Int32.toUInt32 31)).toInt32) &&& 1431655765)).toUInt32 >>> ((2 : Int32).toUInt32 &&& Int32.toUInt32 31)).toInt32) &&& 858993459)).toUInt32 >>> ((4 : Int32).toUInt32 &&& Int32.toUInt32 31)).toInt32)) &&& 252645135) + (((((((a0 - (((a0.toUInt32 >>> ((1 : Int32).toUInt32 &&& Int32.toUInt32 31)).toInt32) &&& 1431655765)) &&& 858993459) + ((((a0 - (((a0.toUInt32 >>> ((1 : Int32).toUInt32 &&& Int32.toUInt32 31)).toInt32) &&& 1431655765)).toUInt32 >>> ((2 : Int32).toUInt32 &&& Int32.toUInt32 31)).toInt32) &&& 858993459)) + (((((a0 - (((a0.toUInt32 >>> ((1 : Int32).toUInt32 &&& Int32.toUInt32 31)).toInt32) &&& 1431655765)) &&& 858993459) + ((((a0 - (((a0.toUInt32 >>> ((1 : Int32).toUInt32 &&& Int32.toUInt32 31)).toInt32) &&& 1431655765)).toUInt32 >>> ((2 : Int32).toUInt32 &&& Int32.toUInt32 31)).toInt32) &&& 858993459)).toUInt32 >>> ((4 : Int32).toUInt32 &&& Int32.toUInt32 31)).toInt32)) &&& 252645135).toUInt32 >>> ((8 : Int32).toUInt32 &&& Int32.toUInt32 31)).toInt32)) + ((((((((a0 - (((a0.toUInt32 >>> ((1 : Int32).toUInt32 &&& Int32.toUInt32 31)).toInt32) &&& 1431655765)) &&& 858993459) + ((((a0 - (((a0.toUInt32 >>> ((1 : Int32).toUInt32 &&& Int32.toUInt32 31)).toInt32) &&& 1431655765)).toUInt32 >>> ((2 : Int32).toUInt32 &&& Int32.toUInt32 31)).toInt32) &&& 858993459)) + (((((a0 - (((a0.toUInt32 >>> ((1 : Int32).toUInt32 &&& Int32.toUInt32 31)).toInt32) &&& 1431655765)) &&& 858993459) + ((((a0 - (((a0.toUInt32 >>> ((1 : Int32).toUInt32 &&& Int32.toUInt32 31)).toInt32) &&& 1431655765)).toUInt32 >>> ((2 : Int32).toUInt32 &&& Int32.toUInt32 31)).toInt32) &&& 858993459)).toUInt32 >>> ((4 : Int32).toUInt32 &&& Int32.toUInt32 31)).toInt32)) &&& 252645135) + (((((((a0 - (((a0.toUInt32 >>> ((1 : Int32).toUInt32 &&& Int32.toUInt32 31)).toInt32) &&& 1431655765)) &&& 858993459) + ((((a0 - (((a0.toUInt32 >>> ((1 : Int32).toUInt32 &&& Int32.toUInt32 31)).toInt32) &&& 1431655765)).toUInt32 >>> ((2 : Int32).toUInt32 &&& Int32.toUInt32 31)).toInt32) &&& 858993459)) + (((((a0 - (((a0.toUInt32 >>> ((1 : Int32).toUInt32 &&& Int32.toUInt32 31)).toInt32) &&& 1431655765)) &&& 858993459) + ((((a0 - (((a0.toUInt32 >>> ((1 : Int32).toUInt32 &&& Int32.toUInt32 31)).toInt32) &&& 1431655765)).toUInt32 >>> ((2 : Int32).toUInt32 &&& Int32.toUInt32 31)).toInt32) &&& 858993459)).toUInt32 >>> ((4 : Int32).toUInt32 &&& Int32.toUInt32 31)).toInt32)) &&& 252645135).toUInt32 >>> ((8 : Int32).toUInt32 &&& Int32.toUInt32 31)).toInt32)).toUInt32 >>> ((16 : Int32).toUInt32 &&& Int32.toUInt32 31)).toInt32)) &&& 63)
def fX7_count (a1 : Int32) (σ : x_S) : Option Int32 :=
  if a1 = 0 then (x_p (fX5_howMany σ) (fun r3 => some r3)) else (if a1 = 1 then (some (σ 32 3)) else (if a1 = 2 then (some (σ 32 5)) else (if a1 = 3 then (some (σ 32 2)) else (if a1 = 4 then (some (σ 32 1)) else (if a1 = 5 then (x_p (fJ6_bitCount_0f7a4 (σ 32 4) σ) (fun r10 => some r10)) else (if a1 = 6 then (some (σ 16 4)) else (if a1 = 7 then (some (σ 13 1)) else (some (-1000001)))))))))
def fX7_status (σ : x_S) : Option Int32 :=
  some (σ 0 8)
def fX8_in (a0 : Int64) (a2 : Int64) (a4 : Int64) (σ : x_S) : Option Int32 :=
  if (lg_cmp a0 a2) < 0 then (some 0) else (if 0 < (lg_cmp a0 a4) then (some 0) else (some 1))
def fX8_has (a0 : Int32) (a1 : Int32) (σ : x_S) : Option Int32 :=
  if ((a0 >>> (a1 &&& 31)) &&& 1) = 1 then (some 1) else (some 0)
def gX8_bits_4 (x0 : Int32) (K4 : Int32 → Int32 → Option Int32) (x1 : Int32) (x2 : Int32) (σ : x_S) : Option Int32 :=
  if 7 ≤ x2 then (some x1) else (K4 (x1 + ((x0 >>> (x2 &&& 31)) &&& 1)) (x2 + 1))
def bX8_bits_4 (x0 : Int32) (x1 : Int32) (x2 : Int32) (σ : x_S) : Option Int32 :=
  x_fx (α := Int32 → Int32 → Option Int32) (fun _ _ => none) (fun K => fun x1 x2 => gX8_bits_4  x0 K x1 x2 σ) x_F x1 x2
def fX8_bits (a0 : Int32) (σ : x_S) : Option Int32 :=
  bX8_bits_4 a0 0 0 σ
def fX8_find (a1 : Int32) (σ : x_S) : Option (Int32 × x_S) :=
  x_w (x_u σ 0 10 a1) (fun σ1 => some (((-1000010) - a1), σ1))
def fX8_well (a1 : Int32) (σ : x_S) : Option (Int32 × x_S) :=
  x_w (x_u σ 0 10 0) (fun σ1 => some (a1, σ1))
def fX8_isRow (a0 : Int32) (σ : x_S) : Option Int32 :=
  x_p (fX8_in a0.toInt64 0 7 σ) (fun r2 => x_g (r2 &&& 1 = r2) (some r2))
def gX8_row_55 (x1 : Int32) (x3 : Int32) (K55 : Int32 → x_S → Option (Int32 × x_S)) (x4 : Int32) (σ : x_S) : Option (Int32 × x_S) :=
  if 40 ≤ x4 then (x_b (fX8_well x3 σ) (fun r3 σ4 => some (r3, σ4))) else (x_g (x_in ((40 * x1) + x4) 320) (x_w (x_u σ 5 ((40 * x1) + x4).toNatClampNeg 0) (fun σ6 => K55 (x4 + 1) σ6)))
def bX8_row_55 (x1 : Int32) (x3 : Int32) (x4 : Int32) (σ : x_S) : Option (Int32 × x_S) :=
  x_fx (α := Int32 → x_S → Option (Int32 × x_S)) (fun _ _ => none) (fun K => fun x4 σ => gX8_row_55  x1 x3 K x4 σ) x_F x4 σ
def fX8_row (a1 : Int32) (a2 : Int32) (a3 : Int32) (σ : x_S) : Option (Int32 × x_S) :=
  x_p (fX8_isRow a1 σ) (fun r2 => if r2 = 0 then (some ((-1000001), σ)) else (x_p (fX8_in a2.toInt64 0 2 σ) (fun r5 => if r5 = 0 then (some ((-1000001), σ)) else (if a3 ≤ 40 then (if 0 ≤ a3 then (x_g (x_in a1 8) (x_w (x_u σ 3 a1.toNatClampNeg a2) (fun σ10 => x_g (x_in a1 8) (x_w (x_u σ10 4 a1.toNatClampNeg a3) (fun σ13 => bX8_row_55 a1 a3 0 σ13))))) else (x_b (fX8_find 4 σ) (fun r16 σ17 => some (r16, σ17)))) else (some ((-1000001), σ))))))
def fX8_narrow (a0 : Int32) (a1 : Int32) (σ : x_S) : Option Int32 :=
  if a1 = 0 then (some a0.toInt8.toInt32) else (if a1 = 1 then (some a0.toInt16.toInt32) else (some a0))
def fX8_set (a1 : Int32) (a2 : Int32) (a3 : Int32) (σ : x_S) : Option (Int32 × x_S) :=
  x_p (fX8_isRow a1 σ) (fun r2 => if r2 = 0 then (some ((-1000001), σ)) else (x_g (x_in a1 8) (if 0 ≤ (σ 4 a1.toNatClampNeg) then (x_g (x_in a1 8) (x_p (fX8_in a2.toInt64 0 (((σ 4 a1.toNatClampNeg) - 1).toInt64) σ) (fun r8 => if r8 = 0 then (x_b (fX8_find 2 σ) (fun r21 σ22 => some (r21, σ22))) else (x_g (x_in a1 8) (x_p (fX8_narrow a3 (σ 3 a1.toNatClampNeg) σ) (fun r12 => x_g (x_in ((40 * a1) + a2) 320) (x_w (x_u σ 5 ((40 * a1) + a2).toNatClampNeg r12) (fun σ14 => x_g (x_in ((40 * a1) + a2) 320) (x_b (fX8_well (σ14 5 ((40 * a1) + a2).toNatClampNeg) σ14) (fun r18 σ19 => some (r18, σ19))))))))))) else (x_b (fX8_find 1 σ) (fun r24 σ25 => some (r24, σ25))))))
def fX8_isSpan (a1 : Int32) (a2 : Int32) (a3 : Int32) (σ : x_S) : Option Int32 :=
  if a2 < 0 then (some 0) else (if a3 < 0 then (some 0) else (x_g (x_in a1 8) (if 0 < (lg_cmp (a2.toInt64 + a3.toInt64) ((σ 4 a1.toNatClampNeg).toInt64)) then (some 0) else (some 1))))
def bX8_copy_35 (σ : x_S) : Option (Int32 × x_S) :=
  x_b (fX8_find 1 σ) (fun r2 σ3 => some (r2, σ3))
def bX8_copy_85 (σ : x_S) : Option (Int32 × x_S) :=
  x_b (fX8_find 2 σ) (fun r2 σ3 => some (r2, σ3))
def bX8_copy_131 (K107 : Int32 → x_S → Option (Int32 × x_S)) (x1 : Int32) (x2 : Int32) (x3 : Int32) (x4 : Int32) (x5 : Int32) (x6 : Int32) (x7 : Int32) (y0 : Int32) (σ : x_S) : Option (Int32 × x_S) :=
  x_g (x_in (((40 * x1) + x2) + y0) 320) (x_g (x_in (((40 * x3) + x4) + y0) 320) (x_w (x_u σ 5 (((40 * x3) + x4) + y0).toNatClampNeg (σ 5 (((40 * x1) + x2) + y0).toNatClampNeg)) (fun σ3 => K107 (x7 + 1) σ3)))
def gX8_copy_107 (x1 : Int32) (x2 : Int32) (x3 : Int32) (x4 : Int32) (x5 : Int32) (x6 : Int32) (K107 : Int32 → x_S → Option (Int32 × x_S)) (x7 : Int32) (σ : x_S) : Option (Int32 × x_S) :=
  if x5 ≤ x7 then (x_b (fX8_well x5 σ) (fun r3 σ4 => some (r3, σ4))) else (if x6 = 0 then (bX8_copy_131 K107 x1 x2 x3 x4 x5 x6 x7 x7 σ) else (bX8_copy_131 K107 x1 x2 x3 x4 x5 x6 x7 ((x5 - 1) - x7) σ))
def bX8_copy_107 (x1 : Int32) (x2 : Int32) (x3 : Int32) (x4 : Int32) (x5 : Int32) (x6 : Int32) (x7 : Int32) (σ : x_S) : Option (Int32 × x_S) :=
  x_fx (α := Int32 → x_S → Option (Int32 × x_S)) (fun _ _ => none) (fun K => fun x7 σ => gX8_copy_107  x1 x2 x3 x4 x5 x6 K x7 σ) x_F x7 σ
def fX8_copy (a1 : Int32) (a2 : Int32) (a3 : Int32) (a4 : Int32) (a5 : Int32) (σ : x_S) : Option (Int32 × x_S) :=
  x_p (fX8_isRow a1 σ) (fun r2 => if r2 = 0 then (some ((-1000001), σ)) else (x_p (fX8_isRow a3 σ) (fun r5 => if r5 = 0 then (some ((-1000001), σ)) else (x_g (x_in a1 8) (if (σ 4 a1.toNatClampNeg) < 0 then (bX8_copy_35 σ) else (x_g (x_in a3 8) (if 0 ≤ (σ 4 a3.toNatClampNeg) then (x_g (x_in a1 8) (x_g (x_in a3 8) (if (σ 3 a1.toNatClampNeg) = (σ 3 a3.toNatClampNeg) then (x_p (fX8_isSpan a1 a2 a5 σ) (fun r15 => if r15 = 0 then (bX8_copy_85 σ) else (x_p (fX8_isSpan a3 a4 a5 σ) (fun r18 => if r18 = 0 then (bX8_copy_85 σ) else (if a4 ≤ a2 then (bX8_copy_107 a1 a2 a3 a4 a5 0 0 σ) else (bX8_copy_107 a1 a2 a3 a4 a5 1 0 σ)))))) else (x_b (fX8_find 5 σ) (fun r22 σ23 => some (r22, σ23)))))) else (bX8_copy_35 σ))))))))
def fX8_drop (a1 : Int32) (σ : x_S) : Option (Int32 × x_S) :=
  x_p (fX8_isRow a1 σ) (fun r2 => if r2 = 0 then (some ((-1000001), σ)) else (x_g (x_in a1 8) (if 0 ≤ (σ 4 a1.toNatClampNeg) then (x_g (x_in a1 8) (x_g (x_in a1 8) (x_w (x_u σ 4 a1.toNatClampNeg (-1)) (fun σ8 => x_b (fX8_well (σ 4 a1.toNatClampNeg) σ8) (fun r11 σ12 => some (r11, σ12)))))) else (x_b (fX8_find 1 σ) (fun r14 σ15 => some (r14, σ15))))))
def fX8_feed (a1 : Int32) (σ : x_S) : Option (Int32 × x_S) :=
  x_p (fX8_in a1.toInt64 0 255 σ) (fun r2 => if r2 = 0 then (some ((-1000001), σ)) else (if (σ 0 8) = 120 then (some ((-1000003), σ)) else (x_g (x_in (σ 0 8) 120) (x_w (x_u σ 6 (σ 0 8).toNatClampNeg a1) (fun σ6 => x_w (x_u σ6 0 8 ((σ6 0 8) + 1)) (fun σ8 => some ((σ8 0 8), σ8)))))))
def fX8_isLetter (a1 : Int32) (σ : x_S) : Option Int32 :=
  if (σ 0 8) ≤ (σ 0 13) then (some 0) else (x_g (x_in (σ 0 13) 120) (if (σ 6 (σ 0 13).toNatClampNeg) = a1 then (some 1) else (some 0)))
def fX8_isFigure (a1 : Int32) (σ : x_S) : Option Int32 :=
  if (σ 0 8) ≤ a1 then (some 0) else (x_g (x_in a1 120) (x_p (fX8_in ((σ 6 a1.toNatClampNeg).toInt64) 48 57 σ) (fun r4 => if r4 = 0 then (some 0) else (some 1))))
def fX8_refuse (a1 : Int32) (σ : x_S) : Option (Int32 × x_S) :=
  x_w (x_u σ 0 14 a1) (fun σ1 => some (0, σ1))
def fX8_sign (a1 : Int32) (σ : x_S) : Option (Int32 × x_S) :=
  x_p (fX8_isLetter a1 σ) (fun r2 => if r2 = 0 then (x_b (fX8_refuse 1 σ) (fun r7 σ8 => x_g (r7 &&& 1 = r7) (some (r7, σ8)))) else (x_w (x_u σ 0 13 ((σ 0 13) + 1)) (fun σ4 => some (1, σ4))))
def bX8_readsNumber_37 (σ : x_S) : Option (Int32 × x_S) :=
  x_b (fX8_refuse 1 σ) (fun r2 σ3 => x_g (r2 &&& 1 = r2) (some (r2, σ3)))
def bX8_readsNumber_113 (x1 : Int32) (x2 : Int32) (x3 : Int32) (y0 : Int32) (σ : x_S) : Option (Int32 × x_S) :=
  x_w (x_u σ 0 15 y0) (fun σ1 => x_p (fX8_in ((σ1 0 15).toInt64) x1.toInt64 x2.toInt64 σ1) (fun r4 => if r4 = 0 then (x_b (fX8_refuse 2 σ1) (fun r9 σ10 => x_g (r9 &&& 1 = r9) (some (r9, σ10)))) else (x_w (x_u σ1 0 13 ((σ1 0 13) + x3)) (fun σ6 => some (1, σ6)))))
def bX8_readsNumber_77 (x1 : Int32) (x2 : Int32) (y0 : Int32) (σ : x_S) : Option (Int32 × x_S) :=
  if y0 = 2 then (x_g (x_in ((σ 0 13) + 1) 120) (bX8_readsNumber_113 x1 x2 y0 (((10 * (σ 0 15)) + (σ 6 ((σ 0 13) + 1).toNatClampNeg)) - 48) σ)) else (bX8_readsNumber_113 x1 x2 y0 (σ 0 15) σ)
def bX8_readsNumber_43 (x1 : Int32) (x2 : Int32) (σ : x_S) : Option (Int32 × x_S) :=
  x_g (x_in (σ 0 13) 120) (x_w (x_u σ 0 15 ((σ 6 (σ 0 13).toNatClampNeg) - 48)) (fun σ2 => x_p (fX8_isFigure ((σ2 0 13) + 1) σ2) (fun r5 => if r5 = 0 then (bX8_readsNumber_77 x1 x2 1 σ2) else (bX8_readsNumber_77 x1 x2 2 σ2))))
def fX8_readsNumber (a1 : Int32) (a2 : Int32) (σ : x_S) : Option (Int32 × x_S) :=
  x_p (fX8_isFigure (σ 0 13) σ) (fun r2 => if r2 = 0 then (bX8_readsNumber_37 σ) else (x_p (fX8_isFigure ((σ 0 13) + 1) σ) (fun r5 => if r5 = 0 then (bX8_readsNumber_43 a1 a2 σ) else (x_p (fX8_isFigure ((σ 0 13) + 2) σ) (fun r8 => if r8 = 0 then (bX8_readsNumber_43 a1 a2 σ) else (bX8_readsNumber_37 σ))))))
def fX8_readsLaw (σ : x_S) : Option (Int32 × x_S) :=
  x_b (fX8_sign 100 σ) (fun r2 σ3 => if r2 = 0 then (some (0, σ3)) else (x_b (fX8_readsNumber 1 9 σ3) (fun r6 σ7 => if r6 = 0 then (some (0, σ7)) else (x_g (x_in (1323 : Int32) 1372) (x_w (x_u σ7 1 (1323 : Int32).toNatClampNeg (σ7 0 15)) (fun σ10 => x_b (fX8_sign 59 σ10) (fun r13 σ14 => x_g (r13 &&& 1 = r13) (some (r13, σ14)))))))))
def fX8_readsStreet (σ : x_S) : Option (Int32 × x_S) :=
  if (σ 1 (1324 : Int32).toNatClampNeg) = 7 then (x_b (fX8_refuse 3 σ) (fun r32 σ33 => x_g (r32 &&& 1 = r32) (some (r32, σ33)))) else (x_w (x_u σ 0 13 ((σ 0 13) + 1)) (fun σ3 => x_b (fX8_readsNumber 0 30 σ3) (fun r6 σ7 => if r6 = 0 then (some (0, σ7)) else (x_g (x_in (1328 + (σ 1 (1324 : Int32).toNatClampNeg)) 1372) (x_w (x_u σ7 1 (1328 + (σ 1 (1324 : Int32).toNatClampNeg)).toNatClampNeg (σ7 0 15)) (fun σ10 => x_b (fX8_sign 44 σ10) (fun r13 σ14 => if r13 = 0 then (some (0, σ14)) else (x_b (fX8_readsNumber 0 9 σ14) (fun r17 σ18 => if r17 = 0 then (some (0, σ18)) else (x_g (x_in (1335 + (σ 1 (1324 : Int32).toNatClampNeg)) 1372) (x_w (x_u σ18 1 (1335 + (σ 1 (1324 : Int32).toNatClampNeg)).toNatClampNeg (σ18 0 15)) (fun σ21 => x_g (x_in (1324 : Int32) 1372) (x_w (x_u σ21 1 (1324 : Int32).toNatClampNeg ((σ21 1 (1324 : Int32).toNatClampNeg) + 1)) (fun σ25 => x_b (fX8_sign 59 σ25) (fun r28 σ29 => x_g (r28 &&& 1 = r28) (some (r28, σ29)))))))))))))))))
def fX8_kindOfLetter (a0 : Int32) (σ : x_S) : Option Int32 :=
  if a0 = 119 then (some 1) else (if a0 = 110 then (some 2) else (if a0 = 98 then (some 3) else (if a0 = 107 then (some 4) else (if a0 = 115 then (some 5) else (some 0)))))
def fX8_readsGesture (σ : x_S) : Option (Int32 × x_S) :=
  if (σ 1 (1325 : Int32).toNatClampNeg) = 6 then (x_b (fX8_refuse 3 σ) (fun r49 σ50 => x_g (r49 &&& 1 = r49) (some (r49, σ50)))) else (x_g (x_in (σ 0 13) 120) (x_p (fX8_kindOfLetter (σ 6 (σ 0 13).toNatClampNeg) σ) (fun r5 => x_g (x_in (1342 + (σ 1 (1325 : Int32).toNatClampNeg)) 1372) (x_w (x_u σ 1 (1342 + (σ 1 (1325 : Int32).toNatClampNeg)).toNatClampNeg r5) (fun σ7 => x_w (x_u σ7 0 13 ((σ7 0 13) + 1)) (fun σ9 => x_b (fX8_readsNumber 1 30 σ9) (fun r12 σ13 => if r12 = 0 then (some (0, σ13)) else (x_g (x_in (1348 + (σ 1 (1325 : Int32).toNatClampNeg)) 1372) (x_w (x_u σ13 1 (1348 + (σ 1 (1325 : Int32).toNatClampNeg)).toNatClampNeg (σ13 0 15)) (fun σ16 => x_b (fX8_sign 44 σ16) (fun r19 σ20 => if r19 = 0 then (some (0, σ20)) else (x_b (fX8_readsNumber 0 3 σ20) (fun r23 σ24 => if r23 = 0 then (some (0, σ24)) else (x_g (x_in (1354 + (σ 1 (1325 : Int32).toNatClampNeg)) 1372) (x_w (x_u σ24 1 (1354 + (σ 1 (1325 : Int32).toNatClampNeg)).toNatClampNeg (σ24 0 15)) (fun σ27 => x_b (fX8_sign 44 σ27) (fun r30 σ31 => if r30 = 0 then (some (0, σ31)) else (x_b (fX8_readsNumber 1 9 σ31) (fun r34 σ35 => if r34 = 0 then (some (0, σ35)) else (x_g (x_in (1360 + (σ 1 (1325 : Int32).toNatClampNeg)) 1372) (x_w (x_u σ35 1 (1360 + (σ 1 (1325 : Int32).toNatClampNeg)).toNatClampNeg (σ35 0 15)) (fun σ38 => x_g (x_in (1325 : Int32) 1372) (x_w (x_u σ38 1 (1325 : Int32).toNatClampNeg ((σ38 1 (1325 : Int32).toNatClampNeg) + 1)) (fun σ42 => x_b (fX8_sign 59 σ42) (fun r45 σ46 => x_g (r45 &&& 1 = r45) (some (r45, σ46)))))))))))))))))))))))))))
def bX8_reads_94 (x1 : Int32) (σ : x_S) : Option (Int32 × x_S) :=
  if x1 = 0 then (some (0, σ)) else (if (σ 0 13) = (σ 0 8) then (some (1, σ)) else (x_b (fX8_refuse 1 σ) (fun r4 σ5 => if r4 = 0 then (some (0, σ5)) else (some (1, σ5)))))
def gX8_reads_56 (K56 : Int32 → x_S → Option (Int32 × x_S)) (x1 : Int32) (σ : x_S) : Option (Int32 × x_S) :=
  if x1 = 0 then (bX8_reads_94 x1 σ) else (if (σ 0 8) ≤ (σ 0 13) then (bX8_reads_94 x1 σ) else (x_g (x_in (σ 0 13) 120) (x_p (fX8_kindOfLetter (σ 6 (σ 0 13).toNatClampNeg) σ) (fun r5 => if r5 ≤ 0 then (bX8_reads_94 x1 σ) else (x_b (fX8_readsGesture σ) (fun r8 σ9 => K56 r8 σ9))))))
def bX8_reads_56 (x1 : Int32) (σ : x_S) : Option (Int32 × x_S) :=
  x_fx (α := Int32 → x_S → Option (Int32 × x_S)) (fun _ _ => none) (fun K => fun x1 σ => gX8_reads_56   K x1 σ) x_F x1 σ
def gX8_reads_35 (K35 : Int32 → x_S → Option (Int32 × x_S)) (x1 : Int32) (σ : x_S) : Option (Int32 × x_S) :=
  if x1 = 0 then (bX8_reads_56 x1 σ) else (x_p (fX8_isLetter 114 σ) (fun r3 => if r3 = 0 then (bX8_reads_56 x1 σ) else (x_b (fX8_readsStreet σ) (fun r6 σ7 => K35 r6 σ7))))
def bX8_reads_35 (x1 : Int32) (σ : x_S) : Option (Int32 × x_S) :=
  x_fx (α := Int32 → x_S → Option (Int32 × x_S)) (fun _ _ => none) (fun K => fun x1 σ => gX8_reads_35   K x1 σ) x_F x1 σ
def gX8_reads_2 (K2 : Int32 → x_S → Option (Int32 × x_S)) (x1 : Int32) (σ : x_S) : Option (Int32 × x_S) :=
  if 49 ≤ x1 then (x_w (x_u σ 0 13 0) (fun σ2 => x_b (fX8_readsLaw σ2) (fun r5 σ6 => bX8_reads_35 r5 σ6))) else (x_g (x_in (1323 + x1) 1372) (x_w (x_u σ 1 (1323 + x1).toNatClampNeg 0) (fun σ8 => K2 (x1 + 1) σ8)))
def bX8_reads_2 (x1 : Int32) (σ : x_S) : Option (Int32 × x_S) :=
  x_fx (α := Int32 → x_S → Option (Int32 × x_S)) (fun _ _ => none) (fun K => fun x1 σ => gX8_reads_2   K x1 σ) x_F x1 σ
def fX8_reads (σ : x_S) : Option (Int32 × x_S) :=
  bX8_reads_2 0 σ
def gX8_copyTown_2 (x1 : Int32) (x2 : Int32) (K2 : Int32 → x_S → Option x_S) (x3 : Int32) (σ : x_S) : Option x_S :=
  if 49 ≤ x3 then (some σ) else (x_g (x_in (x1 + x3) 1372) (x_g (x_in (x2 + x3) 1372) (x_w (x_u σ 1 (x2 + x3).toNatClampNeg (σ 1 (x1 + x3).toNatClampNeg)) (fun σ4 => K2 (x3 + 1) σ4))))
def bX8_copyTown_2 (x1 : Int32) (x2 : Int32) (x3 : Int32) (σ : x_S) : Option x_S :=
  x_fx (α := Int32 → x_S → Option x_S) (fun _ _ => none) (fun K => fun x3 σ => gX8_copyTown_2  x1 x2 K x3 σ) x_F x3 σ
def fX8_copyTown (a1 : Int32) (a2 : Int32) (σ : x_S) : Option x_S :=
  bX8_copyTown_2 a1 a2 0 σ
def fX8_city (σ : x_S) : Option (Int32 × x_S) :=
  x_b (fX8_reads σ) (fun r2 σ3 => x_w (x_u σ3 0 8 0) (fun σ4 => if r2 = 0 then (x_w (x_u σ4 0 9 (σ4 0 14)) (fun σ14 => some (((-1000100) - (σ14 0 13)), σ14))) else (x_v (fX8_copyTown 1323 0 σ4) (fun σ8 => x_w (x_u σ8 0 1 1) (fun σ9 => x_w (x_u σ9 0 2 0) (fun σ11 => some ((σ11 1 (2 : Int32).toNatClampNeg), σ11)))))))
def fX8_fault (σ : x_S) : Option Int32 :=
  some (σ 0 9)
def bX8_keepPast_61 (y0 : Int32) (y1 : Int32) (σ : x_S) : Option x_S :=
  x_w (x_u σ 0 2 (y1 - y0)) (fun σ1 => x_v (fX8_copyTown 0 (49 + (49 * (σ1 0 2))) σ1) (fun σ4 => x_w (x_u σ4 0 2 ((σ4 0 2) + 1)) (fun σ5 => some σ5)))
def bX8_keepPast_42 (σ : x_S) : Option x_S :=
  if (σ 0 2) = 24 then (bX8_keepPast_61 1 (σ 0 2) σ) else (bX8_keepPast_61 0 (σ 0 2) σ)
def gX8_keepPast_2 (K2 : Int32 → x_S → Option x_S) (x1 : Int32) (σ : x_S) : Option x_S :=
  if 1127 ≤ x1 then (bX8_keepPast_42 σ) else (if (σ 0 2) = 24 then (x_g (x_in (98 + x1) 1372) (x_g (x_in (49 + x1) 1372) (x_w (x_u σ 1 (49 + x1).toNatClampNeg (σ 1 (98 + x1).toNatClampNeg)) (fun σ5 => K2 (x1 + 1) σ5)))) else (bX8_keepPast_42 σ))
def bX8_keepPast_2 (x1 : Int32) (σ : x_S) : Option x_S :=
  x_fx (α := Int32 → x_S → Option x_S) (fun _ _ => none) (fun K => fun x1 σ => gX8_keepPast_2   K x1 σ) x_F x1 σ
def fX8_keepPast (σ : x_S) : Option x_S :=
  bX8_keepPast_2 0 σ
def fX8_undo (σ : x_S) : Option (Int32 × x_S) :=
  if (σ 0 2) = 0 then (some ((-1000002), σ)) else (x_w (x_u σ 0 2 ((σ 0 2) - 1)) (fun σ2 => x_v (fX8_copyTown (49 + (49 * (σ2 0 2))) 0 σ2) (fun σ5 => some ((σ5 0 2), σ5))))
def fX8_isGesture (a1 : Int32) (σ : x_S) : Option Int32 :=
  x_p (fX8_in a1.toInt64 0 (((σ 1 (2 : Int32).toNatClampNeg) - 1).toInt64) σ) (fun r3 => x_g (r3 &&& 1 = r3) (some r3))
def fX8_isStreet (a1 : Int32) (σ : x_S) : Option Int32 :=
  x_p (fX8_in a1.toInt64 0 (((σ 1 (1 : Int32).toNatClampNeg) - 1).toInt64) σ) (fun r3 => x_g (r3 &&& 1 = r3) (some r3))
def fX8_wave (a1 : Int32) (a2 : Int32) (σ : x_S) : Option Int32 :=
  x_g (x_in (12 + a2) 1372) (some ((a1 * (σ 1 (0 : Int32).toNatClampNeg)) + ((a1 * (σ 1 (12 + a2).toNatClampNeg)) / 10)))
def fX8_plainDuty (a1 : Int32) (a2 : Int32) (a3 : Int32) (σ : x_S) : Option Int32 :=
  if a1 = 2 then (x_p (fX8_wave a2 a3 σ) (fun r3 => some (r3 / 2))) else (if a1 = 3 then (x_p (fX8_wave a2 a3 σ) (fun r6 => if a2 ≤ 10 then (some (r6 + 0)) else (some (r6 + ((σ 1 (0 : Int32).toNatClampNeg) * (a2 - 10)))))) else (if a1 = 4 then (some 1) else (if a1 = 5 then (x_g (x_in (12 + a3) 1372) (if 5 ≤ (σ 1 (12 + a3).toNatClampNeg) then (x_p (fX8_wave a2 a3 σ) (fun r14 => some r14)) else (some 1))) else (x_p (fX8_wave a2 a3 σ) (fun r16 => some r16)))))
def fX8_owes (a1 : Int32) (a2 : Int32) (a3 : Int32) (σ : x_S) : Option Int32 :=
  x_p (fX8_plainDuty a1 a2 a3 σ) (fun r2 => x_p (fX8_has (σ 1 (4 : Int32).toNatClampNeg) a3 σ) (fun r5 => if r5 = 0 then (some r2) else (some (r2 / 2))))
def fX8_dutyOf (a1 : Int32) (a2 : Int32) (σ : x_S) : Option Int32 :=
  x_g (x_in (19 + a1) 1372) (x_g (x_in (25 + a1) 1372) (x_p (fX8_owes (σ 1 (19 + a1).toNatClampNeg) (σ 1 (25 + a1).toNatClampNeg) a2 σ) (fun r4 => some r4)))
def bX8_isSeen_18 (x1 : Int32) (x2 : Int32) (y0 : Int32) (σ : x_S) : Option Int32 :=
  x_g (x_in (25 + x1) 1372) (x_g (x_in (5 + x2) 1372) (if ((σ 1 (25 + x1).toNatClampNeg) + y0) < (σ 1 (5 + x2).toNatClampNeg) then (some 0) else (some 1)))
def fX8_isSeen (a1 : Int32) (a2 : Int32) (σ : x_S) : Option Int32 :=
  x_g (x_in (19 + a1) 1372) (if (σ 1 (19 + a1).toNatClampNeg) ≤ 3 then (bX8_isSeen_18 a1 a2 0 σ) else (bX8_isSeen_18 a1 a2 5 σ))
def fX8_make (a1 : Int32) (a2 : Int32) (σ : x_S) : Option (Int32 × x_S) :=
  x_p (fX8_isGesture a1 σ) (fun r2 => if r2 = 0 then (some ((-1000001), σ)) else (x_p (fX8_isStreet a2 σ) (fun r5 => if r5 = 0 then (some ((-1000001), σ)) else (x_p (fX8_isSeen a1 a2 σ) (fun r8 => if r8 = 0 then (some ((-1000002), σ)) else (x_p (fX8_dutyOf a1 a2 σ) (fun r12 => if ((σ 1 (3 : Int32).toNatClampNeg) + r12) ≤ 99999 then (x_v (fX8_keepPast σ) (fun σ15 => x_g (x_in (3 : Int32) 1372) (x_w (x_u σ15 1 (3 : Int32).toNatClampNeg ((σ 1 (3 : Int32).toNatClampNeg) + r12)) (fun σ17 => x_g (x_in (43 + a1) 1372) (x_g (x_in (43 + a1) 1372) (x_w (x_u σ17 1 (43 + a1).toNatClampNeg ((σ17 1 (43 + a1).toNatClampNeg) + 1)) (fun σ21 => some (((σ 1 (3 : Int32).toNatClampNeg) + r12), σ21)))))))) else (some ((-1000003), σ)))))))))
def fX8_dim (a1 : Int32) (a2 : Int32) (σ : x_S) : Option (Int32 × x_S) :=
  x_p (fX8_isStreet a1 σ) (fun r2 => if r2 = 0 then (some ((-1000001), σ)) else (x_p (fX8_in a2.toInt64 0 30 σ) (fun r5 => if r5 = 0 then (some ((-1000001), σ)) else (x_v (fX8_keepPast σ) (fun σ8 => x_g (x_in (5 + a1) 1372) (x_g (x_in (5 + a1) 1372) (x_w (x_u σ8 1 (5 + a1).toNatClampNeg a2) (fun σ11 => some ((σ8 1 (5 + a1).toNatClampNeg), σ11)))))))))
def fX8_train (a1 : Int32) (a2 : Int32) (σ : x_S) : Option (Int32 × x_S) :=
  x_p (fX8_isGesture a1 σ) (fun r2 => if r2 = 0 then (some ((-1000001), σ)) else (x_p (fX8_in a2.toInt64 1 29 σ) (fun r5 => if r5 = 0 then (some ((-1000001), σ)) else (x_g (x_in (25 + a1) 1372) (if 1 ≤ ((σ 1 (25 + a1).toNatClampNeg) - a2) then (x_v (fX8_keepPast σ) (fun σ10 => x_g (x_in (25 + a1) 1372) (x_g (x_in (25 + a1) 1372) (x_w (x_u σ10 1 (25 + a1).toNatClampNeg ((σ10 1 (25 + a1).toNatClampNeg) - a2)) (fun σ13 => x_g (x_in (25 + a1) 1372) (some ((σ13 1 (25 + a1).toNatClampNeg), σ13))))))) else (some ((-1000002), σ)))))))
def bX8_know_41 (x1 : Int32) (y0 : Int32) (y1 : Int32) (σ : x_S) : Option (Int32 × x_S) :=
  if y1 = y0 then (some ((-1000002), σ)) else (x_v (fX8_keepPast σ) (fun σ3 => x_g (x_in (4 : Int32) 1372) (x_w (x_u σ3 1 (4 : Int32).toNatClampNeg ((σ3 1 (4 : Int32).toNatClampNeg) ^^^ (1 <<< (x1 &&& 31)))) (fun σ6 => some ((σ6 1 (4 : Int32).toNatClampNeg), σ6)))))
def fX8_know (a1 : Int32) (a2 : Int32) (σ : x_S) : Option (Int32 × x_S) :=
  x_p (fX8_isStreet a1 σ) (fun r2 => if r2 = 0 then (some ((-1000001), σ)) else (x_p (fX8_in a2.toInt64 0 1 σ) (fun r5 => if r5 = 0 then (some ((-1000001), σ)) else (x_p (fX8_has (σ 1 (4 : Int32).toNatClampNeg) a1 σ) (fun r9 => if a2 = 1 then (bX8_know_41 a1 1 r9 σ) else (bX8_know_41 a1 0 r9 σ))))))
def gX8_seenStreets_4 (x1 : Int32) (K4 : Int32 → Int32 → Option Int32) (x2 : Int32) (x3 : Int32) (σ : x_S) : Option Int32 :=
  if (σ 1 (1 : Int32).toNatClampNeg) ≤ x3 then (some x2) else (x_p (fX8_isSeen x1 x3 σ) (fun r4 => if r4 = 0 then (K4 (x2 ||| 0) (x3 + 1)) else (K4 (x2 ||| (1 <<< (x3 &&& 31))) (x3 + 1))))
def bX8_seenStreets_4 (x1 : Int32) (x2 : Int32) (x3 : Int32) (σ : x_S) : Option Int32 :=
  x_fx (α := Int32 → Int32 → Option Int32) (fun _ _ => none) (fun K => fun x2 x3 => gX8_seenStreets_4  x1 K x2 x3 σ) x_F x2 x3
def fX8_seenStreets (a1 : Int32) (σ : x_S) : Option Int32 :=
  bX8_seenStreets_4 a1 0 0 σ
def gX8_seenGestures_4 (x1 : Int32) (K4 : Int32 → Int32 → Option Int32) (x2 : Int32) (x3 : Int32) (σ : x_S) : Option Int32 :=
  if (σ 1 (2 : Int32).toNatClampNeg) ≤ x3 then (some x2) else (x_p (fX8_isSeen x3 x1 σ) (fun r4 => if r4 = 0 then (K4 (x2 ||| 0) (x3 + 1)) else (K4 (x2 ||| (1 <<< (x3 &&& 31))) (x3 + 1))))
def bX8_seenGestures_4 (x1 : Int32) (x2 : Int32) (x3 : Int32) (σ : x_S) : Option Int32 :=
  x_fx (α := Int32 → Int32 → Option Int32) (fun _ _ => none) (fun K => fun x2 x3 => gX8_seenGestures_4  x1 K x2 x3 σ) x_F x2 x3
def fX8_seenGestures (a1 : Int32) (σ : x_S) : Option Int32 :=
  bX8_seenGestures_4 a1 0 0 σ
def fX8_gesture (a1 : Int32) (a2 : Int32) (σ : x_S) : Option Int32 :=
  x_p (fX8_isGesture a1 σ) (fun r2 => if r2 = 0 then (some (-1000001)) else (if a2 = 0 then (x_g (x_in (25 + a1) 1372) (some (σ 1 (25 + a1).toNatClampNeg))) else (if a2 = 1 then (x_g (x_in (31 + a1) 1372) (some (σ 1 (31 + a1).toNatClampNeg))) else (if a2 = 2 then (x_g (x_in (37 + a1) 1372) (some (σ 1 (37 + a1).toNatClampNeg))) else (if a2 = 3 then (x_p (fX8_seenStreets a1 σ) (fun r12 => some r12)) else (if a2 = 4 then (x_g (x_in (43 + a1) 1372) (some (σ 1 (43 + a1).toNatClampNeg))) else (some (-1000001))))))))
def fX8_street (a1 : Int32) (a2 : Int32) (σ : x_S) : Option Int32 :=
  x_p (fX8_isStreet a1 σ) (fun r2 => if r2 = 0 then (some (-1000001)) else (if a2 = 0 then (x_g (x_in (5 + a1) 1372) (some (σ 1 (5 + a1).toNatClampNeg))) else (if a2 = 1 then (x_g (x_in (12 + a1) 1372) (some (σ 1 (12 + a1).toNatClampNeg))) else (if a2 = 2 then (some (((σ 1 (4 : Int32).toNatClampNeg) >>> (a1 &&& 31)) &&& 1)) else (if a2 = 3 then (x_p (fX8_seenGestures a1 σ) (fun r12 => some r12)) else (some (-1000001)))))))
def fX8_duty (a1 : Int32) (a2 : Int32) (σ : x_S) : Option Int32 :=
  x_p (fX8_isGesture a1 σ) (fun r2 => if r2 = 0 then (some (-1000001)) else (x_p (fX8_isStreet a2 σ) (fun r5 => if r5 = 0 then (some (-1000001)) else (x_p (fX8_dutyOf a1 a2 σ) (fun r8 => some r8)))))
def fX8_tells (a1 : Int32) (a2 : Int32) (a3 : Int32) (σ : x_S) : Option Int32 :=
  x_g (x_in (31 + a1) 1372) (if (σ 1 (31 + a1).toNatClampNeg) = a2 then (x_p (fX8_isSeen a1 a3 σ) (fun r4 => if r4 = 0 then (some 0) else (some 1))) else (some 0))
def bX8_onBy_29 (x1 : Int32) (x3 : Int32) (x4 : Int32) (y0 : Int32) (σ : x_S) : Option Int32 :=
  if y0 = 0 then (some 1000000) else (x_p (fX8_dutyOf x1 x3 σ) (fun r3 => x_g (x_in (37 + x1) 1372) (x_g (x_in (((100 * (x3 + 1)) + x4) - (σ 1 (37 + x1).toNatClampNeg)) 800) (some (r3 + (σ 8 (((100 * (x3 + 1)) + x4) - (σ 1 (37 + x1).toNatClampNeg)).toNatClampNeg))))))
def bX8_onBy_28 (x1 : Int32) (x3 : Int32) (x4 : Int32) (σ : x_S) : Option Int32 :=
  bX8_onBy_29 x1 x3 x4 0 σ
def fX8_onBy (a1 : Int32) (a2 : Int32) (a3 : Int32) (a4 : Int32) (σ : x_S) : Option Int32 :=
  x_p (fX8_tells a1 a2 a3 σ) (fun r2 => if r2 = 0 then (bX8_onBy_28 a1 a3 a4 σ) else (x_g (x_in (37 + a1) 1372) (if a4 < (σ 1 (37 + a1).toNatClampNeg) then (bX8_onBy_28 a1 a3 a4 σ) else (bX8_onBy_29 a1 a3 a4 1 σ))))
def bX8_layCosts_140 (K34 : Int32 → x_S → Option x_S) (K43 : Int32 → x_S → Option x_S) (K68 : Int32 → x_S → Option x_S) (x1 : Int32) (x2 : Int32) (x4 : Int32) (x5 : Int32) (x6 : Int32) (y0 : Int32) (y1 : Int32) (σ : x_S) : Option x_S :=
  x_g (x_in y1 800) (x_w (x_u σ 8 y1.toNatClampNeg y0) (fun σ2 => K68 (x6 + 1) σ2))
def gX8_layCosts_68 (K34 : Int32 → x_S → Option x_S) (K43 : Int32 → x_S → Option x_S) (x1 : Int32) (x2 : Int32) (x4 : Int32) (x5 : Int32) (K68 : Int32 → x_S → Option x_S) (x6 : Int32) (σ : x_S) : Option x_S :=
  if (σ 1 (2 : Int32).toNatClampNeg) ≤ x6 then (K43 (x5 + 1) σ) else (x_p (fX8_onBy x6 x1 x4 x5 σ) (fun r4 => x_g (x_in ((100 * x4) + x5) 800) (if (σ 8 ((100 * x4) + x5).toNatClampNeg) ≤ r4 then (x_g (x_in ((100 * x4) + x5) 800) (bX8_layCosts_140 K34 K43 K68 x1 x2 x4 x5 x6 (σ 8 ((100 * x4) + x5).toNatClampNeg) ((100 * x4) + x5) σ)) else (bX8_layCosts_140 K34 K43 K68 x1 x2 x4 x5 x6 r4 ((100 * x4) + x5) σ))))
def bX8_layCosts_68 (K34 : Int32 → x_S → Option x_S) (K43 : Int32 → x_S → Option x_S) (x1 : Int32) (x2 : Int32) (x4 : Int32) (x5 : Int32) (x6 : Int32) (σ : x_S) : Option x_S :=
  x_fx (α := Int32 → x_S → Option x_S) (fun _ _ => none) (fun K => fun x6 σ => gX8_layCosts_68 K34 K43 x1 x2 x4 x5 K x6 σ) x_F x6 σ
def gX8_layCosts_43 (K34 : Int32 → x_S → Option x_S) (x1 : Int32) (x2 : Int32) (x4 : Int32) (K43 : Int32 → x_S → Option x_S) (x5 : Int32) (σ : x_S) : Option x_S :=
  if 100 ≤ x5 then (K34 (x4 + (-1)) σ) else (x_g (x_in ((100 * x4) + x5) 800) (x_w (x_u σ 8 ((100 * x4) + x5).toNatClampNeg 1000000) (fun σ3 => bX8_layCosts_68 K34 K43 x1 x2 x4 x5 0 σ3)))
def bX8_layCosts_43 (K34 : Int32 → x_S → Option x_S) (x1 : Int32) (x2 : Int32) (x4 : Int32) (x5 : Int32) (σ : x_S) : Option x_S :=
  x_fx (α := Int32 → x_S → Option x_S) (fun _ _ => none) (fun K => fun x5 σ => gX8_layCosts_43 K34 x1 x2 x4 K x5 σ) x_F x5 σ
def gX8_layCosts_34 (x1 : Int32) (x2 : Int32) (K34 : Int32 → x_S → Option x_S) (x4 : Int32) (σ : x_S) : Option x_S :=
  if x4 < x2 then (some σ) else (bX8_layCosts_43 K34 x1 x2 x4 0 σ)
def bX8_layCosts_34 (x1 : Int32) (x2 : Int32) (x4 : Int32) (σ : x_S) : Option x_S :=
  x_fx (α := Int32 → x_S → Option x_S) (fun _ _ => none) (fun K => fun x4 σ => gX8_layCosts_34  x1 x2 K x4 σ) x_F x4 σ
def gX8_layCosts_3 (x1 : Int32) (x2 : Int32) (x3 : Int32) (K3 : Int32 → x_S → Option x_S) (x4 : Int32) (σ : x_S) : Option x_S :=
  if 100 ≤ x4 then (bX8_layCosts_34 x1 x2 x3 σ) else (x_g (x_in ((100 * (x3 + 1)) + x4) 800) (x_w (x_u σ 8 ((100 * (x3 + 1)) + x4).toNatClampNeg 0) (fun σ3 => K3 (x4 + 1) σ3)))
def bX8_layCosts_3 (x1 : Int32) (x2 : Int32) (x3 : Int32) (x4 : Int32) (σ : x_S) : Option x_S :=
  x_fx (α := Int32 → x_S → Option x_S) (fun _ _ => none) (fun K => fun x4 σ => gX8_layCosts_3  x1 x2 x3 K x4 σ) x_F x4 σ
def fX8_layCosts (a1 : Int32) (a2 : Int32) (a3 : Int32) (σ : x_S) : Option x_S :=
  bX8_layCosts_3 a1 a2 a3 0 σ
def fX8_isMeans (a0 : Int32) (σ : x_S) : Option Int32 :=
  x_p (fX8_in a0.toInt64 0 3 σ) (fun r2 => x_g (r2 &&& 1 = r2) (some r2))
def fX8_areStreets (a1 : Int32) (a2 : Int32) (σ : x_S) : Option Int32 :=
  x_p (fX8_isStreet a1 σ) (fun r2 => if r2 = 0 then (some 0) else (x_p (fX8_isStreet a2 σ) (fun r5 => if r5 = 0 then (some 0) else (if a2 < a1 then (some 0) else (some 1)))))
def gX8_tell_109 (K97 : Int32 → Int32 → Int32 → x_S → Option (Int32 × x_S)) (x1 : Int32) (x2 : Int32) (x5 : Int32) (x6 : Int32) (x7 : Int32) (x9 : Int32) (K109 : Int32 → x_S → Option (Int32 × x_S)) (x8 : Int32) (σ : x_S) : Option (Int32 × x_S) :=
  x_p (fX8_onBy x8 x1 x9 x7 σ) (fun r2 => x_g (x_in ((100 * x9) + x7) 800) (if r2 = (σ 8 ((100 * x9) + x7).toNatClampNeg) then (x_g (x_in (37 + x8) 1372) (K97 (x7 - (σ 1 (37 + x8).toNatClampNeg)) x8 (x9 + 1) σ)) else (K109 (x8 + 1) σ)))
def bX8_tell_109 (K97 : Int32 → Int32 → Int32 → x_S → Option (Int32 × x_S)) (x1 : Int32) (x2 : Int32) (x5 : Int32) (x6 : Int32) (x7 : Int32) (x9 : Int32) (x8 : Int32) (σ : x_S) : Option (Int32 × x_S) :=
  x_fx (α := Int32 → x_S → Option (Int32 × x_S)) (fun _ _ => none) (fun K => fun x8 σ => gX8_tell_109 K97 x1 x2 x5 x6 x7 x9 K x8 σ) x_F x8 σ
def gX8_tell_97 (x1 : Int32) (x2 : Int32) (x5 : Int32) (x6 : Int32) (K97 : Int32 → Int32 → Int32 → x_S → Option (Int32 × x_S)) (x7 : Int32) (x8 : Int32) (x9 : Int32) (σ : x_S) : Option (Int32 × x_S) :=
  if (x2 + x5) < x9 then (if 0 ≤ x5 then (some (x8, σ)) else (some (x6, σ))) else (bX8_tell_109 K97 x1 x2 x5 x6 x7 x9 0 σ)
def bX8_tell_97 (x1 : Int32) (x2 : Int32) (x5 : Int32) (x6 : Int32) (x7 : Int32) (x8 : Int32) (x9 : Int32) (σ : x_S) : Option (Int32 × x_S) :=
  x_fx (α := Int32 → Int32 → Int32 → x_S → Option (Int32 × x_S)) (fun _ _ _ _ => none) (fun K => fun x7 x8 x9 σ => gX8_tell_97  x1 x2 x5 x6 K x7 x8 x9 σ) x_F x7 x8 x9 σ
def fX8_tell (a1 : Int32) (a2 : Int32) (a3 : Int32) (a4 : Int32) (a5 : Int32) (σ : x_S) : Option (Int32 × x_S) :=
  x_p (fX8_isMeans a1 σ) (fun r2 => if r2 = 0 then (some ((-1000001), σ)) else (x_p (fX8_areStreets a2 a3 σ) (fun r5 => if r5 = 0 then (some ((-1000001), σ)) else (x_p (fX8_in a4.toInt64 0 99 σ) (fun r8 => if r8 = 0 then (some ((-1000001), σ)) else (x_p (fX8_in a5.toInt64 (-1) 6 σ) (fun r11 => if r11 = 0 then (some ((-1000001), σ)) else (x_v (fX8_layCosts a1 a2 a3 σ) (fun σ14 => x_g (x_in ((100 * a2) + a4) 800) (if 1000000 ≤ (σ14 8 ((100 * a2) + a4).toNatClampNeg) then (some ((-1000000), σ14)) else (if a5 ≤ (a3 - a2) then (bX8_tell_97 a1 a2 a5 (σ14 8 ((100 * a2) + a4).toNatClampNeg) a4 (-1000000) a2 σ14) else (some ((-1000000), σ14)))))))))))))
def bX8_soonest_53 (K6 : Int32 → Int32 → Option Int32) (x1 : Int32) (x2 : Int32) (x3 : Int32) (x4 : Int32) (y0 : Int32) (σ : x_S) : Option Int32 :=
  if y0 = 0 then (K6 x3 (x4 + 1)) else (x_g (x_in (37 + x4) 1372) (K6 (σ 1 (37 + x4).toNatClampNeg) (x4 + 1)))
def bX8_soonest_52 (K6 : Int32 → Int32 → Option Int32) (x1 : Int32) (x2 : Int32) (x3 : Int32) (x4 : Int32) (σ : x_S) : Option Int32 :=
  bX8_soonest_53 K6 x1 x2 x3 x4 0 σ
def gX8_soonest_6 (x1 : Int32) (x2 : Int32) (K6 : Int32 → Int32 → Option Int32) (x3 : Int32) (x4 : Int32) (σ : x_S) : Option Int32 :=
  if (σ 1 (2 : Int32).toNatClampNeg) ≤ x4 then (some x3) else (x_p (fX8_tells x4 x1 x2 σ) (fun r4 => if r4 = 0 then (bX8_soonest_52 K6 x1 x2 x3 x4 σ) else (if x3 = (-1000000) then (bX8_soonest_53 K6 x1 x2 x3 x4 1 σ) else (x_g (x_in (37 + x4) 1372) (if x3 ≤ (σ 1 (37 + x4).toNatClampNeg) then (bX8_soonest_52 K6 x1 x2 x3 x4 σ) else (bX8_soonest_53 K6 x1 x2 x3 x4 1 σ))))))
def bX8_soonest_6 (x1 : Int32) (x2 : Int32) (x3 : Int32) (x4 : Int32) (σ : x_S) : Option Int32 :=
  x_fx (α := Int32 → Int32 → Option Int32) (fun _ _ => none) (fun K => fun x3 x4 => gX8_soonest_6  x1 x2 K x3 x4 σ) x_F x3 x4
def fX8_soonest (a1 : Int32) (a2 : Int32) (σ : x_S) : Option Int32 :=
  bX8_soonest_6 a1 a2 (-1000000) 0 σ
def gX8_shut_24 (x1 : Int32) (K24 : Int32 → Int32 → Option Int32) (x2 : Int32) (x3 : Int32) (σ : x_S) : Option Int32 :=
  if (σ 1 (1 : Int32).toNatClampNeg) ≤ x3 then (some x2) else (x_p (fX8_soonest x1 x3 σ) (fun r4 => if r4 = (-1000000) then (K24 (x2 ||| (1 <<< (x3 &&& 31))) (x3 + 1)) else (K24 (x2 ||| 0) (x3 + 1))))
def bX8_shut_24 (x1 : Int32) (x2 : Int32) (x3 : Int32) (σ : x_S) : Option Int32 :=
  x_fx (α := Int32 → Int32 → Option Int32) (fun _ _ => none) (fun K => fun x2 x3 => gX8_shut_24  x1 K x2 x3 σ) x_F x2 x3
def fX8_shut (a1 : Int32) (σ : x_S) : Option Int32 :=
  if (σ 0 1) = 0 then (some (-1000002)) else (x_p (fX8_isMeans a1 σ) (fun r3 => if r3 = 0 then (some (-1000001)) else (bX8_shut_24 a1 0 0 σ)))
def gX8_quick_25 (x1 : Int32) (x3 : Int32) (K25 : Int32 → Int32 → Option Int32) (x4 : Int32) (x5 : Int32) (σ : x_S) : Option Int32 :=
  if x3 < x5 then (some x4) else (x_p (fX8_soonest x1 x5 σ) (fun r3 => if r3 = (-1000000) then (some (-1000000)) else (x_p (fX8_soonest x1 x5 σ) (fun r6 => K25 (x4 + r6) (x5 + 1)))))
def bX8_quick_25 (x1 : Int32) (x3 : Int32) (x4 : Int32) (x5 : Int32) (σ : x_S) : Option Int32 :=
  x_fx (α := Int32 → Int32 → Option Int32) (fun _ _ => none) (fun K => fun x4 x5 => gX8_quick_25  x1 x3 K x4 x5 σ) x_F x4 x5
def fX8_quick (a1 : Int32) (a2 : Int32) (a3 : Int32) (σ : x_S) : Option Int32 :=
  x_p (fX8_isMeans a1 σ) (fun r2 => if r2 = 0 then (some (-1000001)) else (x_p (fX8_areStreets a2 a3 σ) (fun r5 => if r5 = 0 then (some (-1000001)) else (bX8_quick_25 a1 a3 0 a2 σ))))
def gX8_noPairs_39 (x1 : Int32) (x2 : Int32) (x3 : Int32) (K39 : Int32 → Int32 → x_S → Option (Int32 × x_S)) (x4 : Int32) (x5 : Int32) (σ : x_S) : Option (Int32 × x_S) :=
  if x3 ≤ x5 then (if x4 = 0 then (some ((-1000001), σ)) else (some (0, σ))) else (if x4 = 0 then (K39 0 (x5 + 1) σ) else (x_g (x_in (((40 * x1) + x2) + (2 * x5)) 320) (x_p (fX8_isStreet (σ 5 (((40 * x1) + x2) + (2 * x5)).toNatClampNeg) σ) (fun r6 => if r6 = 0 then (K39 0 (x5 + 1) σ) else (K39 1 (x5 + 1) σ)))))
def bX8_noPairs_39 (x1 : Int32) (x2 : Int32) (x3 : Int32) (x4 : Int32) (x5 : Int32) (σ : x_S) : Option (Int32 × x_S) :=
  x_fx (α := Int32 → Int32 → x_S → Option (Int32 × x_S)) (fun _ _ _ => none) (fun K => fun x4 x5 σ => gX8_noPairs_39  x1 x2 x3 K x4 x5 σ) x_F x4 x5 σ
def fX8_noPairs (a1 : Int32) (a2 : Int32) (a3 : Int32) (σ : x_S) : Option (Int32 × x_S) :=
  x_g (x_in a1 8) (if 0 ≤ (σ 4 a1.toNatClampNeg) then (x_p (fX8_isSpan a1 a2 (2 * a3) σ) (fun r4 => if r4 = 0 then (x_b (fX8_find 2 σ) (fun r7 σ8 => some (r7, σ8))) else (bX8_noPairs_39 a1 a2 a3 1 0 σ))) else (x_b (fX8_find 1 σ) (fun r10 σ11 => some (r10, σ11))))
def gX8_owesSo_12 (x1 : Int32) (x2 : Int32) (x3 : Int32) (x4 : Int32) (x5 : Int32) (K12 : Int32 → Int32 → Option Int32) (x6 : Int32) (x7 : Int32) (σ : x_S) : Option Int32 :=
  if (((40 * x3) + x4) + (2 * x5)) ≤ x7 then (x_g (x6 &&& 1 = x6) (some x6)) else (if x6 = 0 then (K12 0 (x7 + 2)) else (x_g (x_in x7 320) (x_p (fX8_owes x1 x2 (σ 5 x7.toNatClampNeg) σ) (fun r6 => x_g (x_in (x7 + 1) 320) (if r6 = (σ 5 (x7 + 1).toNatClampNeg) then (K12 1 (x7 + 2)) else (K12 0 (x7 + 2)))))))
def bX8_owesSo_12 (x1 : Int32) (x2 : Int32) (x3 : Int32) (x4 : Int32) (x5 : Int32) (x6 : Int32) (x7 : Int32) (σ : x_S) : Option Int32 :=
  x_fx (α := Int32 → Int32 → Option Int32) (fun _ _ => none) (fun K => fun x6 x7 => gX8_owesSo_12  x1 x2 x3 x4 x5 K x6 x7 σ) x_F x6 x7
def fX8_owesSo (a1 : Int32) (a2 : Int32) (a3 : Int32) (a4 : Int32) (a5 : Int32) (σ : x_S) : Option Int32 :=
  bX8_owesSo_12 a1 a2 a3 a4 a5 1 ((40 * a3) + a4) σ
def gX8_isSeenSo_11 (x1 : Int32) (x2 : Int32) (x3 : Int32) (x4 : Int32) (K11 : Int32 → Int32 → Option Int32) (x5 : Int32) (x6 : Int32) (σ : x_S) : Option Int32 :=
  if (((40 * x2) + x3) + (2 * x4)) ≤ x6 then (x_g (x5 &&& 1 = x5) (some x5)) else (if x5 = 0 then (K11 0 (x6 + 2)) else (x_g (x_in x6 320) (x_p (fX8_isSeen x1 (σ 5 x6.toNatClampNeg) σ) (fun r6 => if r6 = 0 then (K11 0 (x6 + 2)) else (K11 1 (x6 + 2))))))
def bX8_isSeenSo_11 (x1 : Int32) (x2 : Int32) (x3 : Int32) (x4 : Int32) (x5 : Int32) (x6 : Int32) (σ : x_S) : Option Int32 :=
  x_fx (α := Int32 → Int32 → Option Int32) (fun _ _ => none) (fun K => fun x5 x6 => gX8_isSeenSo_11  x1 x2 x3 x4 K x5 x6 σ) x_F x5 x6
def fX8_isSeenSo (a1 : Int32) (a2 : Int32) (a3 : Int32) (a4 : Int32) (σ : x_S) : Option Int32 :=
  bX8_isSeenSo_11 a1 a2 a3 a4 1 ((40 * a2) + a3) σ
def gX8_thread_55 (x1 : Int32) (x2 : Int32) (x3 : Int32) (K55 : Int32 → Int32 → x_S → Option (Int32 × x_S)) (x5 : Int32) (x6 : Int32) (σ : x_S) : Option (Int32 × x_S) :=
  if (σ 1 (2 : Int32).toNatClampNeg) ≤ x6 then (x_b (fX8_well x5 σ) (fun r4 σ5 => some (r4, σ5))) else (x_p (fX8_isSeenSo x6 x1 x2 x3 σ) (fun r7 => if r7 = 0 then (K55 (x5 ||| 0) (x6 + 1) σ) else (x_g (x_in (19 + x6) 1372) (x_g (x_in (25 + x6) 1372) (x_p (fX8_owesSo (σ 1 (19 + x6).toNatClampNeg) (σ 1 (25 + x6).toNatClampNeg) x1 x2 x3 σ) (fun r12 => if r12 = 0 then (K55 (x5 ||| 0) (x6 + 1) σ) else (K55 (x5 ||| (1 <<< (x6 &&& 31))) (x6 + 1) σ)))))))
def bX8_thread_55 (x1 : Int32) (x2 : Int32) (x3 : Int32) (x5 : Int32) (x6 : Int32) (σ : x_S) : Option (Int32 × x_S) :=
  x_fx (α := Int32 → Int32 → x_S → Option (Int32 × x_S)) (fun _ _ _ => none) (fun K => fun x5 x6 σ => gX8_thread_55  x1 x2 x3 K x5 x6 σ) x_F x5 x6 σ
def fX8_thread (a1 : Int32) (a2 : Int32) (a3 : Int32) (σ : x_S) : Option (Int32 × x_S) :=
  if (σ 0 1) = 0 then (some ((-1000002), σ)) else (x_p (fX8_isRow a1 σ) (fun r3 => if r3 = 0 then (some ((-1000001), σ)) else (x_p (fX8_in a3.toInt64 1 12 σ) (fun r6 => if r6 = 0 then (some ((-1000001), σ)) else (x_b (fX8_noPairs a1 a2 a3 σ) (fun r9 σ10 => if r9 = 0 then (bX8_thread_55 a1 a2 a3 0 0 σ10) else (some (r9, σ10))))))))
def gX8_inches_55 (x1 : Int32) (x2 : Int32) (x3 : Int32) (x4 : Int32) (K55 : Int32 → Int32 → x_S → Option (Int32 × x_S)) (x6 : Int32) (x7 : Int32) (σ : x_S) : Option (Int32 × x_S) :=
  if 30 ≤ x7 then (x_b (fX8_well x6 σ) (fun r3 σ4 => some (r3, σ4))) else (x_g (x_in (19 + x1) 1372) (x_p (fX8_owesSo (σ 1 (19 + x1).toNatClampNeg) (x7 + 1) x2 x3 x4 σ) (fun r7 => if r7 = 0 then (K55 (x6 ||| 0) (x7 + 1) σ) else (K55 (x6 ||| (1 <<< (x7 &&& 31))) (x7 + 1) σ))))
def bX8_inches_55 (x1 : Int32) (x2 : Int32) (x3 : Int32) (x4 : Int32) (x6 : Int32) (x7 : Int32) (σ : x_S) : Option (Int32 × x_S) :=
  x_fx (α := Int32 → Int32 → x_S → Option (Int32 × x_S)) (fun _ _ _ => none) (fun K => fun x6 x7 σ => gX8_inches_55  x1 x2 x3 x4 K x6 x7 σ) x_F x6 x7 σ
def fX8_inches (a1 : Int32) (a2 : Int32) (a3 : Int32) (a4 : Int32) (σ : x_S) : Option (Int32 × x_S) :=
  x_p (fX8_isGesture a1 σ) (fun r2 => if r2 = 0 then (some ((-1000001), σ)) else (x_p (fX8_isRow a2 σ) (fun r5 => if r5 = 0 then (some ((-1000001), σ)) else (x_p (fX8_in a4.toInt64 1 12 σ) (fun r8 => if r8 = 0 then (some ((-1000001), σ)) else (x_b (fX8_noPairs a2 a3 a4 σ) (fun r11 σ12 => if r11 = 0 then (bX8_inches_55 a1 a2 a3 a4 0 0 σ12) else (some (r11, σ12)))))))))
def gX8_sorts_55 (x1 : Int32) (x2 : Int32) (x3 : Int32) (x4 : Int32) (K55 : Int32 → Int32 → x_S → Option (Int32 × x_S)) (x6 : Int32) (x7 : Int32) (σ : x_S) : Option (Int32 × x_S) :=
  if 6 ≤ x7 then (x_b (fX8_well x6 σ) (fun r3 σ4 => some (r3, σ4))) else (x_g (x_in (25 + x1) 1372) (x_p (fX8_owesSo x7 (σ 1 (25 + x1).toNatClampNeg) x2 x3 x4 σ) (fun r7 => if r7 = 0 then (K55 (x6 ||| 0) (x7 + 1) σ) else (K55 (x6 ||| (1 <<< (x7 &&& 31))) (x7 + 1) σ))))
def bX8_sorts_55 (x1 : Int32) (x2 : Int32) (x3 : Int32) (x4 : Int32) (x6 : Int32) (x7 : Int32) (σ : x_S) : Option (Int32 × x_S) :=
  x_fx (α := Int32 → Int32 → x_S → Option (Int32 × x_S)) (fun _ _ _ => none) (fun K => fun x6 x7 σ => gX8_sorts_55  x1 x2 x3 x4 K x6 x7 σ) x_F x6 x7 σ
def fX8_sorts (a1 : Int32) (a2 : Int32) (a3 : Int32) (a4 : Int32) (σ : x_S) : Option (Int32 × x_S) :=
  x_p (fX8_isGesture a1 σ) (fun r2 => if r2 = 0 then (some ((-1000001), σ)) else (x_p (fX8_isRow a2 σ) (fun r5 => if r5 = 0 then (some ((-1000001), σ)) else (x_p (fX8_in a4.toInt64 1 12 σ) (fun r8 => if r8 = 0 then (some ((-1000001), σ)) else (x_b (fX8_noPairs a2 a3 a4 σ) (fun r11 σ12 => if r11 = 0 then (bX8_sorts_55 a1 a2 a3 a4 0 1 σ12) else (some (r11, σ12)))))))))
def gX8_saved_15 (x1 : Int32) (K15 : Int32 → Int32 → Option Int32) (x2 : Int32) (x3 : Int32) (σ : x_S) : Option Int32 :=
  if (σ 1 (1 : Int32).toNatClampNeg) ≤ x3 then (some x2) else (x_p (fX8_dutyOf x1 x3 σ) (fun r4 => x_g (x_in (19 + x1) 1372) (x_g (x_in (25 + x1) 1372) (x_p (fX8_plainDuty (σ 1 (19 + x1).toNatClampNeg) (σ 1 (25 + x1).toNatClampNeg) x3 σ) (fun r8 => K15 (x2 + (r4 - (r8 / 2))) (x3 + 1))))))
def bX8_saved_15 (x1 : Int32) (x2 : Int32) (x3 : Int32) (σ : x_S) : Option Int32 :=
  x_fx (α := Int32 → Int32 → Option Int32) (fun _ _ => none) (fun K => fun x2 x3 => gX8_saved_15  x1 K x2 x3 σ) x_F x2 x3
def fX8_saved (a1 : Int32) (σ : x_S) : Option Int32 :=
  x_p (fX8_isGesture a1 σ) (fun r2 => if r2 = 0 then (some (-1000001)) else (bX8_saved_15 a1 0 0 σ))
def bX8_worst_64 (K31 : Int32 → Int32 → Int32 → Option Int32) (x1 : Int32) (x2 : Int32) (x4 : Int32) (x5 : Int32) (x6 : Int32) (y0 : Int32) (σ : x_S) : Option Int32 :=
  if x6 ≤ x4 then (K31 y0 x4 (x5 + 1)) else (K31 y0 x6 (x5 + 1))
def gX8_worst_31 (x1 : Int32) (x2 : Int32) (K31 : Int32 → Int32 → Int32 → Option Int32) (x3 : Int32) (x4 : Int32) (x5 : Int32) (σ : x_S) : Option Int32 :=
  if (σ 1 (1 : Int32).toNatClampNeg) ≤ x5 then (if x2 = 0 then (some x3) else (some x4)) else (x_p (fX8_dutyOf x1 x5 σ) (fun r5 => if r5 ≤ x4 then (bX8_worst_64 K31 x1 x2 x4 x5 r5 x3 σ) else (bX8_worst_64 K31 x1 x2 x4 x5 r5 x5 σ)))
def bX8_worst_31 (x1 : Int32) (x2 : Int32) (x3 : Int32) (x4 : Int32) (x5 : Int32) (σ : x_S) : Option Int32 :=
  x_fx (α := Int32 → Int32 → Int32 → Option Int32) (fun _ _ _ => none) (fun K => fun x3 x4 x5 => gX8_worst_31  x1 x2 K x3 x4 x5 σ) x_F x3 x4 x5
def fX8_worst (a1 : Int32) (a2 : Int32) (σ : x_S) : Option Int32 :=
  x_p (fX8_isGesture a1 σ) (fun r2 => if r2 = 0 then (some (-1000001)) else (x_p (fX8_in a2.toInt64 0 1 σ) (fun r5 => if r5 = 0 then (some (-1000001)) else (bX8_worst_31 a1 a2 (-1000000) (-1000000) 0 σ))))
def gX8_tremble_214 (x6 : Int32) (x8 : Int32) (x9 : Int32) (K214 : Int32 → Int32 → Option Int32) (x10 : Int32) (x11 : Int32) (σ : x_S) : Option Int32 :=
  if x11 = 0 then (if x6 = 0 then (x_g (¬ x10 = 0) (some (x8 / x10))) else (x_g (¬ x10 = 0) (some (x9 / x10)))) else (x_g (¬ x11 = 0) (K214 x11 (x10 - x10 / x11 * x11)))
def bX8_tremble_214 (x6 : Int32) (x8 : Int32) (x9 : Int32) (x10 : Int32) (x11 : Int32) (σ : x_S) : Option Int32 :=
  x_fx (α := Int32 → Int32 → Option Int32) (fun _ _ => none) (fun K => fun x10 x11 => gX8_tremble_214  x6 x8 x9 K x10 x11 σ) x_F x10 x11
def bX8_tremble_190 (K73 : Int32 → Int32 → Int32 → Option Int32) (x1 : Int32) (x2 : Int32) (x4 : Int32) (x5 : Int32) (x6 : Int32) (x7 : Int32) (x9 : Int32) (x10 : Int32) (x11 : Int32) (y0 : Int32) (y1 : Int32) (σ : x_S) : Option Int32 :=
  K73 (y1 + y0) (x9 + x11) (x10 + 1)
def bX8_tremble_158 (K73 : Int32 → Int32 → Int32 → Option Int32) (K91 : Int32 → Int32 → Int32 → Option Int32) (x1 : Int32) (x2 : Int32) (x4 : Int32) (x5 : Int32) (x6 : Int32) (x7 : Int32) (x8 : Int32) (x9 : Int32) (x10 : Int32) (x11 : Int32) (x13 : Int32) (y0 : Int32) (y1 : Int32) (y2 : Int32) (y4 : Int32) (σ : x_S) : Option Int32 :=
  x_p (fX8_owes y2 (y1 + y0) (x2 + x13) σ) (fun r2 => K91 x11 (y4 + r2) (x13 + 1))
def bX8_tremble_124 (K73 : Int32 → Int32 → Int32 → Option Int32) (K91 : Int32 → Int32 → Int32 → Option Int32) (x1 : Int32) (x2 : Int32) (x4 : Int32) (x5 : Int32) (x6 : Int32) (x7 : Int32) (x8 : Int32) (x9 : Int32) (x10 : Int32) (x12 : Int32) (x13 : Int32) (x14 : Int32) (y0 : Int32) (y1 : Int32) (σ : x_S) : Option Int32 :=
  x_g (x_in (19 + x1) 1372) (x_g (x_in (25 + x1) 1372) (if x14 = 0 then (bX8_tremble_158 K73 K91 x1 x2 x4 x5 x6 x7 x8 x9 x10 (y1 * y0) x13 0 (σ 1 (25 + x1).toNatClampNeg) (σ 1 (19 + x1).toNatClampNeg) x12 σ) else (bX8_tremble_158 K73 K91 x1 x2 x4 x5 x6 x7 x8 x9 x10 (y1 * y0) x13 1 (σ 1 (25 + x1).toNatClampNeg) (σ 1 (19 + x1).toNatClampNeg) x12 σ)))
def gX8_tremble_91 (K73 : Int32 → Int32 → Int32 → Option Int32) (x1 : Int32) (x2 : Int32) (x4 : Int32) (x5 : Int32) (x6 : Int32) (x7 : Int32) (x8 : Int32) (x9 : Int32) (x10 : Int32) (K91 : Int32 → Int32 → Int32 → Option Int32) (x11 : Int32) (x12 : Int32) (x13 : Int32) (σ : x_S) : Option Int32 :=
  if x7 ≤ x13 then (if x4 < x12 then (bX8_tremble_190 K73 x1 x2 x4 x5 x6 x7 x9 x10 x11 0 x8 σ) else (bX8_tremble_190 K73 x1 x2 x4 x5 x6 x7 x9 x10 x11 x11 x8 σ)) else (x_p (fX8_has x10 x13 σ) (fun r4 => if r4 = 0 then (bX8_tremble_124 K73 K91 x1 x2 x4 x5 x6 x7 x8 x9 x10 x12 x13 r4 (10 - x5) x11 σ) else (bX8_tremble_124 K73 K91 x1 x2 x4 x5 x6 x7 x8 x9 x10 x12 x13 r4 x5 x11 σ)))
def bX8_tremble_91 (K73 : Int32 → Int32 → Int32 → Option Int32) (x1 : Int32) (x2 : Int32) (x4 : Int32) (x5 : Int32) (x6 : Int32) (x7 : Int32) (x8 : Int32) (x9 : Int32) (x10 : Int32) (x11 : Int32) (x12 : Int32) (x13 : Int32) (σ : x_S) : Option Int32 :=
  x_fx (α := Int32 → Int32 → Int32 → Option Int32) (fun _ _ _ => none) (fun K => fun x11 x12 x13 => gX8_tremble_91 K73 x1 x2 x4 x5 x6 x7 x8 x9 x10 K x11 x12 x13 σ) x_F x11 x12 x13
def gX8_tremble_73 (x1 : Int32) (x2 : Int32) (x4 : Int32) (x5 : Int32) (x6 : Int32) (x7 : Int32) (K73 : Int32 → Int32 → Int32 → Option Int32) (x8 : Int32) (x9 : Int32) (x10 : Int32) (σ : x_S) : Option Int32 :=
  if (1 <<< (x7 &&& 31)) ≤ x10 then (bX8_tremble_214 x6 x8 x9 x8 x9 σ) else (bX8_tremble_91 K73 x1 x2 x4 x5 x6 x7 x8 x9 x10 1 0 0 σ)
def bX8_tremble_73 (x1 : Int32) (x2 : Int32) (x4 : Int32) (x5 : Int32) (x6 : Int32) (x7 : Int32) (x8 : Int32) (x9 : Int32) (x10 : Int32) (σ : x_S) : Option Int32 :=
  x_fx (α := Int32 → Int32 → Int32 → Option Int32) (fun _ _ _ => none) (fun K => fun x8 x9 x10 => gX8_tremble_73  x1 x2 x4 x5 x6 x7 K x8 x9 x10 σ) x_F x8 x9 x10
def fX8_tremble (a1 : Int32) (a2 : Int32) (a3 : Int32) (a4 : Int32) (a5 : Int32) (a6 : Int32) (σ : x_S) : Option Int32 :=
  x_p (fX8_isGesture a1 σ) (fun r2 => if r2 = 0 then (some (-1000001)) else (x_p (fX8_areStreets a2 a3 σ) (fun r5 => if r5 = 0 then (some (-1000001)) else (x_p (fX8_in a4.toInt64 0 9999 σ) (fun r8 => if r8 = 0 then (some (-1000001)) else (x_p (fX8_in a5.toInt64 0 10 σ) (fun r11 => if r11 = 0 then (some (-1000001)) else (x_p (fX8_in a6.toInt64 0 1 σ) (fun r14 => if r14 = 0 then (some (-1000001)) else (bX8_tremble_73 a1 a2 a4 a5 a6 ((a3 - a2) + 1) 0 0 0 σ))))))))))
def fX8_image (a1 : Int32) (σ : x_S) : Option (Int32 × x_S) :=
  x_p (fX8_in a1.toInt64 0 1 σ) (fun r2 => if r2 = 0 then (some ((-1000001), σ)) else (if (σ 0 1) = 0 then (some ((-1000002), σ)) else (x_v (fX8_copyTown 0 (1225 + (49 * a1)) σ) (fun σ6 => x_g (x_in a1 2) (x_w (x_u σ6 2 a1.toNatClampNeg 1) (fun σ8 => some (1, σ8)))))))
def fX8_restore (a1 : Int32) (σ : x_S) : Option (Int32 × x_S) :=
  x_p (fX8_in a1.toInt64 0 1 σ) (fun r2 => if r2 = 0 then (some ((-1000001), σ)) else (x_g (x_in a1 2) (if (σ 2 a1.toNatClampNeg) = 0 then (some ((-1000002), σ)) else (x_v (fX8_copyTown (1225 + (49 * a1)) 0 σ) (fun σ7 => x_w (x_u σ7 0 2 0) (fun σ8 => some (1, σ8)))))))
def fX8_kind (a1 : Int32) (σ : x_S) : Option Int32 :=
  x_p (fX8_isGesture a1 σ) (fun r2 => if r2 = 0 then (some (-1000001)) else (x_g (x_in (19 + a1) 1372) (some (σ 1 (19 + a1).toNatClampNeg))))
def bX8_isOf_34 (x2 : Int32) (x3 : Int32) (σ : x_S) : Option Int32 :=
  if x2 = 4 then (if x3 = 5 then (some 1) else (some 0)) else (some 0)
def fX8_isOf (a1 : Int32) (a2 : Int32) (σ : x_S) : Option Int32 :=
  x_g (x_in (19 + a1) 1372) (if a2 = 0 then (some 1) else (if a2 = (σ 1 (19 + a1).toNatClampNeg) then (some 1) else (if a2 = 1 then (if (σ 1 (19 + a1).toNatClampNeg) = 2 then (some 1) else (if (σ 1 (19 + a1).toNatClampNeg) = 3 then (some 1) else (bX8_isOf_34 a2 (σ 1 (19 + a1).toNatClampNeg) σ))) else (bX8_isOf_34 a2 (σ 1 (19 + a1).toNatClampNeg) σ))))
def fX8_as (a1 : Int32) (a2 : Int32) (σ : x_S) : Option (Int32 × x_S) :=
  x_p (fX8_isGesture a1 σ) (fun r2 => if r2 = 0 then (some ((-1000001), σ)) else (x_p (fX8_in a2.toInt64 0 5 σ) (fun r5 => if r5 = 0 then (some ((-1000001), σ)) else (x_p (fX8_isOf a1 a2 σ) (fun r8 => if r8 = 0 then (x_b (fX8_find 3 σ) (fun r11 σ12 => some (r11, σ12))) else (x_b (fX8_well a1 σ) (fun r14 σ15 => some (r14, σ15))))))))
def fX8_begin (a1 : Int32) (σ : x_S) : Option x_S :=
  if 16 ≤ (σ 0 12) then (some σ) else (x_g (x_in (σ 0 12) 16) (x_w (x_u σ 7 (σ 0 12).toNatClampNeg a1) (fun σ3 => x_w (x_u σ3 0 12 ((σ3 0 12) + 1)) (fun σ5 => some σ5))))
def fX8_lentSize (a1 : Int32) (σ : x_S) : Option (Int32 × x_S) :=
  x_v (fX8_begin 10 σ) (fun σ2 => x_g (x_in (37 + a1) 1372) (some ((σ2 1 (37 + a1).toNatClampNeg), σ2)))
def fX8_lentMark (a1 : Int32) (σ : x_S) : Option (Int32 × x_S) :=
  x_v (fX8_begin 20 σ) (fun σ2 => some (a1, σ2))
def fX8_wavesMark (a1 : Int32) (σ : x_S) : Option (Int32 × x_S) :=
  x_v (fX8_begin 21 σ) (fun σ2 => x_b (fX8_lentMark a1 σ2) (fun r4 σ5 => x_g (x_in (25 + a1) 1372) (some ((r4 + (σ5 1 (25 + a1).toNatClampNeg)), σ5))))
def fX8_mark (a1 : Int32) (σ : x_S) : Option (Int32 × x_S) :=
  x_g (x_in (19 + a1) 1372) (if (σ 1 (19 + a1).toNatClampNeg) = 2 then (x_v (fX8_begin 24 σ) (fun σ4 => x_b (fX8_wavesMark a1 σ4) (fun r6 σ7 => some ((2 * r6), σ7)))) else (if (σ 1 (19 + a1).toNatClampNeg) = 3 then (x_v (fX8_begin 22 σ) (fun σ10 => x_b (fX8_wavesMark a1 σ10) (fun r12 σ13 => some ((r12 - 1000), σ13)))) else (x_b (fX8_wavesMark a1 σ) (fun r15 σ16 => some (r15, σ16)))))
def fX8_wavesSize (a1 : Int32) (σ : x_S) : Option (Int32 × x_S) :=
  x_v (fX8_begin 11 σ) (fun σ2 => x_b (fX8_lentSize a1 σ2) (fun r4 σ5 => x_b (fX8_mark a1 σ5) (fun r7 σ8 => some ((r4 + r7), σ8))))
def fX8_winksSize (a1 : Int32) (σ : x_S) : Option (Int32 × x_S) :=
  x_v (fX8_begin 13 σ) (fun σ2 => x_b (fX8_lentSize a1 σ2) (fun r4 σ5 => some ((r4 - 100), σ5)))
def fX8_sizeOf (a1 : Int32) (σ : x_S) : Option (Int32 × x_S) :=
  x_g (x_in (19 + a1) 1372) (if (σ 1 (19 + a1).toNatClampNeg) = 2 then (x_v (fX8_begin 12 σ) (fun σ4 => x_b (fX8_wavesSize a1 σ4) (fun r6 σ7 => some ((-r6), σ7)))) else (if (σ 1 (19 + a1).toNatClampNeg) = 3 then (x_b (fX8_wavesSize a1 σ) (fun r10 σ11 => some (r10, σ11))) else (if (σ 1 (19 + a1).toNatClampNeg) = 4 then (x_b (fX8_winksSize a1 σ) (fun r14 σ15 => some (r14, σ15))) else (if (σ 1 (19 + a1).toNatClampNeg) = 5 then (x_v (fX8_begin 14 σ) (fun σ18 => x_b (fX8_winksSize a1 σ18) (fun r20 σ21 => some ((2 * r20), σ21)))) else (x_b (fX8_wavesSize a1 σ) (fun r23 σ24 => some (r23, σ24)))))))
def fX8_winksMark (a1 : Int32) (σ : x_S) : Option (Int32 × x_S) :=
  x_v (fX8_begin 23 σ) (fun σ2 => x_b (fX8_lentMark a1 σ2) (fun r4 σ5 => x_b (fX8_sizeOf a1 σ5) (fun r7 σ8 => some ((r4 - r7), σ8))))
def fX8_ask (a1 : Int32) (a2 : Int32) (σ : x_S) : Option (Int32 × x_S) :=
  x_p (fX8_isGesture a1 σ) (fun r2 => if r2 = 0 then (some ((-1000001), σ)) else (x_p (fX8_in a2.toInt64 0 1 σ) (fun r5 => if r5 = 0 then (some ((-1000001), σ)) else (x_w (x_u σ 0 12 0) (fun σ7 => if a2 = 0 then (x_b (fX8_sizeOf a1 σ7) (fun r20 σ21 => some (r20, σ21))) else (x_p (fX8_isOf a1 4 σ7) (fun r11 => if r11 = 0 then (x_b (fX8_mark a1 σ7) (fun r14 σ15 => some (r14, σ15))) else (x_b (fX8_winksMark a1 σ7) (fun r17 σ18 => some (r17, σ18))))))))))
def fX8_trace (a1 : Int32) (σ : x_S) : Option Int32 :=
  x_p (fX8_in a1.toInt64 0 (((σ 0 12) - 1).toInt64) σ) (fun r2 => if r2 = 0 then (some (-1000000)) else (x_g (x_in a1 16) (some (σ 7 a1.toNatClampNeg))))
def gX8_count_50 (K50 : Int32 → Int32 → Option Int32) (x2 : Int32) (x3 : Int32) (σ : x_S) : Option Int32 :=
  if 8 ≤ x3 then (some x2) else (x_g (x_in x3 8) (if 0 ≤ (σ 4 x3.toNatClampNeg) then (K50 (x2 + 1) (x3 + 1)) else (K50 (x2 + 0) (x3 + 1))))
def bX8_count_50 (x2 : Int32) (x3 : Int32) (σ : x_S) : Option Int32 :=
  x_fx (α := Int32 → Int32 → Option Int32) (fun _ _ => none) (fun K => fun x2 x3 => gX8_count_50   K x2 x3 σ) x_F x2 x3
def fX8_count (a1 : Int32) (σ : x_S) : Option Int32 :=
  if a1 = 0 then (bX8_count_50 0 0 σ) else (if a1 = 1 then (some (σ 1 (1 : Int32).toNatClampNeg)) else (if a1 = 2 then (some (σ 1 (2 : Int32).toNatClampNeg)) else (if a1 = 3 then (some (σ 1 (3 : Int32).toNatClampNeg)) else (if a1 = 4 then (some (σ 1 (0 : Int32).toNatClampNeg)) else (if a1 = 5 then (x_p (fX8_bits (σ 1 (4 : Int32).toNatClampNeg) σ) (fun r13 => some r13)) else (if a1 = 6 then (some (σ 0 2)) else (if a1 = 7 then (some (σ 0 8)) else (some (-1000001)))))))))
def fX8_status (σ : x_S) : Option Int32 :=
  some (σ 0 10)
