/-! ===== pure: sums over masks ===== -/
def z_sum (f : Nat → Nat) : Nat → Nat
  | 0 => 0
  | n + 1 => z_sum f n + f n
theorem z_sum2 (f : Nat → Nat) : ∀ n, z_sum f (2 * n) = z_sum (fun m => f (2 * m) + f (2 * m + 1)) n := by
  intro n
  induction n with
  | zero => rfl
  | succ n ih =>
    show z_sum f (2 * n) + f (2 * n) + f (2 * n + 1) = z_sum (fun m => f (2 * m) + f (2 * m + 1)) n + (f (2 * n) + f (2 * n + 1))
    rw [ih, Nat.add_assoc]
theorem z_sum_c {f g : Nat → Nat} (h : ∀ m, f m = g m) (n : Nat) : z_sum f n = z_sum g n := by
  have : f = g := funext h
  rw [this]
theorem z_sum_0 (n : Nat) : z_sum (fun _ => 0) n = 0 := by
  induction n with
  | zero => rfl
  | succ n ih => show z_sum (fun _ => 0) n + 0 = 0; rw [ih]
theorem z_sum_l (a b : Nat) (f g : Nat → Nat) (n : Nat) : z_sum (fun m => a * f m + b * g m) n = a * z_sum f n + b * z_sum g n := by
  induction n with
  | zero => rfl
  | succ n ih =>
    show z_sum (fun m => a * f m + b * g m) n + (a * f n + b * g n) = a * (z_sum f n + f n) + b * (z_sum g n + g n)
    rw [ih, Nat.mul_add, Nat.mul_add]; omega
def z_wt (p m : Nat) : Nat → Nat → Nat
  | 0, _ => 1
  | d + 1, k => (if m / 2 ^ k % 2 = 1 then p else 10 - p) * z_wt p m d (k + 1)
def z_ct (D0 D1 : Nat → Nat) (m : Nat) : Nat → Nat → Nat → Nat
  | 0, _, _ => 0
  | d + 1, k, s => (if m / 2 ^ k % 2 = 1 then D1 s else D0 s) + z_ct D0 D1 m d (k + 1) (s + 1)
theorem z_half2 (m k : Nat) : m / 2 ^ (k + 1) = m / 2 / 2 ^ k := by rw [Nat.pow_succ, Nat.mul_comm, Nat.div_div_eq_div_mul]
theorem z_wt_h (p m : Nat) : ∀ d k, z_wt p m d (k + 1) = z_wt p (m / 2) d k := by
  intro d
  induction d with
  | zero => intro k; rfl
  | succ d ih =>
    intro k
    show (if m / 2 ^ (k + 1) % 2 = 1 then p else 10 - p) * z_wt p m d (k + 1 + 1) = (if m / 2 / 2 ^ k % 2 = 1 then p else 10 - p) * z_wt p (m / 2) d (k + 1)
    rw [ih, z_half2]
theorem z_ct_h (D0 D1 : Nat → Nat) (m : Nat) : ∀ d k s, z_ct D0 D1 m d (k + 1) s = z_ct D0 D1 (m / 2) d k s := by
  intro d
  induction d with
  | zero => intro k s; rfl
  | succ d ih =>
    intro k s
    show (if m / 2 ^ (k + 1) % 2 = 1 then D1 s else D0 s) + z_ct D0 D1 m d (k + 1 + 1) (s + 1) = (if m / 2 / 2 ^ k % 2 = 1 then D1 s else D0 s) + z_ct D0 D1 (m / 2) d (k + 1) (s + 1)
    rw [ih, z_half2]
theorem z_ev (m : Nat) : 2 * m / 2 = m := by omega
theorem z_od (m : Nat) : (2 * m + 1) / 2 = m := by omega
theorem z_wt_e (p m d : Nat) : z_wt p (2 * m) (d + 1) 0 = (10 - p) * z_wt p m d 0 := by
  show (if 2 * m / 2 ^ 0 % 2 = 1 then p else 10 - p) * z_wt p (2 * m) d (0 + 1) = _
  rw [z_wt_h, z_ev, if_neg (by rw [Nat.pow_zero, Nat.div_one]; omega)]
theorem z_wt_o (p m d : Nat) : z_wt p (2 * m + 1) (d + 1) 0 = p * z_wt p m d 0 := by
  show (if (2 * m + 1) / 2 ^ 0 % 2 = 1 then p else 10 - p) * z_wt p (2 * m + 1) d (0 + 1) = _
  rw [z_wt_h, z_od, if_pos (by rw [Nat.pow_zero, Nat.div_one]; omega)]
theorem z_ct_e (D0 D1 : Nat → Nat) (m d s : Nat) : z_ct D0 D1 (2 * m) (d + 1) 0 s = D0 s + z_ct D0 D1 m d 0 (s + 1) := by
  show (if 2 * m / 2 ^ 0 % 2 = 1 then D1 s else D0 s) + z_ct D0 D1 (2 * m) d (0 + 1) (s + 1) = _
  rw [z_ct_h, z_ev, if_neg (by rw [Nat.pow_zero, Nat.div_one]; omega)]
theorem z_ct_o (D0 D1 : Nat → Nat) (m d s : Nat) : z_ct D0 D1 (2 * m + 1) (d + 1) 0 s = D1 s + z_ct D0 D1 m d 0 (s + 1) := by
  show (if (2 * m + 1) / 2 ^ 0 % 2 = 1 then D1 s else D0 s) + z_ct D0 D1 (2 * m + 1) d (0 + 1) (s + 1) = _
  rw [z_ct_h, z_od, if_pos (by rw [Nat.pow_zero, Nat.div_one]; omega)]
/-- the tenths within a purse: street by street -/
def z_ten (p : Nat) (D0 D1 : Nat → Nat) : Nat → Nat → Nat → Nat
  | 0, _, _ => 1
  | d + 1, s, x => (10 - p) * (if D0 s ≤ x then z_ten p D0 D1 d (s + 1) (x - D0 s) else 0) + p * (if D1 s ≤ x then z_ten p D0 D1 d (s + 1) (x - D1 s) else 0)
theorem z_ten_sum (p : Nat) (D0 D1 : Nat → Nat) : ∀ d s x, z_ten p D0 D1 d s x = z_sum (fun m => if z_ct D0 D1 m d 0 s ≤ x then z_wt p m d 0 else 0) (2 ^ d) := by
  intro d
  induction d with
  | zero =>
    intro s x
    show 1 = 0 + (if 0 ≤ x then 1 else 0)
    rw [if_pos (Nat.zero_le x)]
  | succ d ih =>
    intro s x
    have part : ∀ D : Nat, (if D ≤ x then z_ten p D0 D1 d (s + 1) (x - D) else 0) = z_sum (fun m => if D + z_ct D0 D1 m d 0 (s + 1) ≤ x then z_wt p m d 0 else 0) (2 ^ d) := by
      intro D
      by_cases c : D ≤ x
      · rw [if_pos c, ih]
        refine z_sum_c (fun m => ?_) _
        by_cases c2 : z_ct D0 D1 m d 0 (s + 1) ≤ x - D
        · rw [if_pos c2, if_pos (by omega)]
        · rw [if_neg c2, if_neg (by omega)]
      · rw [if_neg c]
        refine (z_sum_0 (2 ^ d)).symm.trans (z_sum_c (fun m => ?_) _)
        rw [if_neg (by omega)]
    show (10 - p) * (if D0 s ≤ x then z_ten p D0 D1 d (s + 1) (x - D0 s) else 0) + p * (if D1 s ≤ x then z_ten p D0 D1 d (s + 1) (x - D1 s) else 0) = _
    rw [part, part, ← z_sum_l, Nat.pow_succ, Nat.mul_comm (2 ^ d) 2, z_sum2]
    refine z_sum_c (fun m => ?_) _
    show _ = (if z_ct D0 D1 (2 * m) (d + 1) 0 s ≤ x then z_wt p (2 * m) (d + 1) 0 else 0) + (if z_ct D0 D1 (2 * m + 1) (d + 1) 0 s ≤ x then z_wt p (2 * m + 1) (d + 1) 0 else 0)
    rw [z_ct_e, z_ct_o, z_wt_e, z_wt_o]
    congr 1
    · split
      · rfl
      · rfl
    · split
      · rfl
      · rfl
theorem z_wt_sum {p : Nat} (hp : p ≤ 10) : ∀ d, z_sum (fun m => z_wt p m d 0) (2 ^ d) = 10 ^ d := by
  intro d
  induction d with
  | zero => rfl
  | succ d ih =>
    rw [Nat.pow_succ, Nat.mul_comm (2 ^ d) 2, z_sum2]
    refine (z_sum_c (g := fun m => (10 - p) * z_wt p m d 0 + p * z_wt p m d 0) (fun m => ?_) _).trans ?_
    · show z_wt p (2 * m) (d + 1) 0 + z_wt p (2 * m + 1) (d + 1) 0 = _
      rw [z_wt_e, z_wt_o]
    · rw [z_sum_l, ih, ← Nat.add_mul, Nat.pow_succ, show 10 - p + p = 10 by omega, Nat.mul_comm]
