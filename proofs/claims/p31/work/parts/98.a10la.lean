/-! the draws: x, what is LOST -/
def lq_s (x : Nat) : Nat := (1103515245 * x + 12345) % 2147483648
def lq_i : Nat → Nat → Nat
  | 0, x => x
  | n + 1, x => lq_s (lq_i n x)
def lq_d (x : Nat) : Nat := x / 64 % 100
def lq_A : Nat → Nat
  | 0 => 1
  | n + 1 => Nat.mod (Nat.mul (lq_A n) 1103515245) 2147483648
def lq_C : Nat → Nat
  | 0 => 0
  | n + 1 => Nat.mod (Nat.add (Nat.mul (lq_C n) 1103515245) 12345) 2147483648
theorem lq_i_lt {n x : Nat} (h : x < 2147483648) : lq_i n x < 2147483648 := by
  cases n with
  | zero => exact h
  | succ n => exact Nat.mod_lt _ (by decide)
theorem lq_i_add (m n x : Nat) : lq_i (m + n) x = lq_i n (lq_i m x) := by
  induction n with
  | zero => rfl
  | succ n ih => show lq_s (lq_i (m + n) x) = lq_s (lq_i n (lq_i m x)); rw [ih]
theorem lq_A_lt (n : Nat) : lq_A n < 2147483648 := by
  cases n with
  | zero => decide
  | succ n => exact Nat.mod_lt _ (by decide)
theorem lq_C_lt (n : Nat) : lq_C n < 2147483648 := by
  cases n with
  | zero => decide
  | succ n => exact Nat.mod_lt _ (by decide)
theorem lq_AC {x : Nat} (h : x < 2147483648) : ∀ n, lq_i n x = (lq_A n * x + lq_C n) % 2147483648 := by
  intro n
  induction n with
  | zero => show x = (1 * x + 0) % 2147483648; rw [Nat.one_mul, Nat.add_zero, Nat.mod_eq_of_lt h]
  | succ n ih =>
    show lq_s (lq_i n x) = ((lq_A n * 1103515245 % 2147483648) * x + (lq_C n * 1103515245 + 12345) % 2147483648) % 2147483648
    rw [ih]
    unfold lq_s
    rw [Nat.add_mod (1103515245 * _), Nat.mul_mod, Nat.mod_mod, ← Nat.mul_mod, ← Nat.add_mod]
    rw [Nat.add_mod (lq_A n * 1103515245 % 2147483648 * x), Nat.mul_mod (lq_A n * 1103515245 % 2147483648), Nat.mod_mod, ← Nat.mul_mod, Nat.mod_mod, ← Nat.add_mod]
    have e : 1103515245 * (lq_A n * x + lq_C n) + 12345 = lq_A n * 1103515245 * x + (lq_C n * 1103515245 + 12345) := by
      rw [Nat.mul_add, Nat.mul_comm (lq_A n) 1103515245, Nat.mul_assoc, Nat.mul_comm (lq_C n), Nat.add_assoc]
    rw [e]
/-! lanes -/
def lq_pk : (Nat → Nat) → Nat → Nat
  | _, 0 => 0
  | f, n + 1 => 18446744073709551616 * lq_pk (fun i => f (i + 1)) n + f 0
theorem lq_pk_cg {f g : Nat → Nat} : ∀ {n : Nat}, (∀ i, i < n → f i = g i) → lq_pk f n = lq_pk g n := by
  intro n
  induction n generalizing f g with
  | zero => intro _; rfl
  | succ n ih =>
    intro h
    show 18446744073709551616 * lq_pk (fun i => f (i + 1)) n + f 0 = 18446744073709551616 * lq_pk (fun i => g (i + 1)) n + g 0
    rw [ih (fun i hi => h (i + 1) (by omega)), h 0 (by omega)]
theorem lq_pk_add (f g : Nat → Nat) : ∀ n, lq_pk f n + lq_pk g n = lq_pk (fun i => f i + g i) n := by
  intro n
  induction n generalizing f g with
  | zero => rfl
  | succ n ih =>
    show (18446744073709551616 * lq_pk (fun i => f (i + 1)) n + f 0) + (18446744073709551616 * lq_pk (fun i => g (i + 1)) n + g 0) = 18446744073709551616 * lq_pk (fun i => f (i + 1) + g (i + 1)) n + (f 0 + g 0)
    rw [← ih]
    omega
theorem lq_pk_mul (k : Nat) (f : Nat → Nat) : ∀ n, k * lq_pk f n = lq_pk (fun i => k * f i) n := by
  intro n
  induction n generalizing f with
  | zero => rfl
  | succ n ih =>
    show k * (18446744073709551616 * lq_pk (fun i => f (i + 1)) n + f 0) = 18446744073709551616 * lq_pk (fun i => k * f (i + 1)) n + k * f 0
    rw [← ih, Nat.mul_add, Nat.mul_left_comm]
theorem lq_pk_sub {f g : Nat → Nat} {n : Nat} (h : ∀ i, i < n → g i ≤ f i) : lq_pk f n - lq_pk g n = lq_pk (fun i => f i - g i) n := by
  have e : lq_pk (fun i => f i - g i) n + lq_pk g n = lq_pk f n := by
    rw [lq_pk_add]
    exact lq_pk_cg (fun i hi => Nat.sub_add_cancel (h i hi))
  omega
theorem lq_pk_tb {f : Nat → Nat} : ∀ {n : Nat}, (∀ i, i < n → f i < 2 ^ 64) → ∀ i j, j < 64 → (lq_pk f n).testBit (64 * i + j) = (decide (i < n) && (f i).testBit j) := by
  intro n
  induction n generalizing f with
  | zero => intro _ i j _; show Nat.testBit 0 _ = _; rw [Nat.zero_testBit]; rfl
  | succ n ih =>
    intro h i j hj
    show (2 ^ 64 * lq_pk (fun i => f (i + 1)) n + f 0).testBit (64 * i + j) = _
    rw [Nat.testBit_two_pow_mul_add _ (h 0 (by omega))]
    cases i with
    | zero => rw [if_pos (by omega), Nat.mul_zero, Nat.zero_add]; simp
    | succ i =>
      rw [if_neg (by omega), show 64 * (i + 1) + j - 64 = 64 * i + j from by omega, ih (fun i hi => h (i + 1) (by omega)) i j hj]
      simp
theorem lq_tl (a b e : Nat) : (Nat.land a b).testBit e = (a.testBit e && b.testBit e) := Nat.testBit_and a b e
theorem lq_to (a b e : Nat) : (Nat.lor a b).testBit e = (a.testBit e || b.testBit e) := Nat.testBit_or a b e
theorem lq_tx (a b e : Nat) : (Nat.xor a b).testBit e = (Bool.xor (a.testBit e) (b.testBit e)) := Nat.testBit_xor a b e
theorem lq_eq {a b : Nat} (h : ∀ i j, j < 64 → a.testBit (64 * i + j) = b.testBit (64 * i + j)) : a = b := by
  apply Nat.eq_of_testBit_eq
  intro e
  have := h (e / 64) (e % 64) (Nat.mod_lt _ (by decide))
  rwa [Nat.div_add_mod] at this
theorem lq_land {f g : Nat → Nat} {n : Nat} (hf : ∀ i, i < n → f i < 2 ^ 64) (hg : ∀ i, i < n → g i < 2 ^ 64) : Nat.land (lq_pk f n) (lq_pk g n) = lq_pk (fun i => Nat.land (f i) (g i)) n := by
  apply lq_eq
  intro i j hj
  rw [lq_tl, lq_pk_tb hf i j hj, lq_pk_tb hg i j hj, lq_pk_tb (f := fun i => Nat.land (f i) (g i)) (fun i hi => Nat.and_lt_two_pow _ (hg i hi)) i j hj, lq_tl]
  cases decide (i < n) <;> simp
theorem lq_xor {f g : Nat → Nat} {n : Nat} (hf : ∀ i, i < n → f i < 2 ^ 64) (hg : ∀ i, i < n → g i < 2 ^ 64) : Nat.xor (lq_pk f n) (lq_pk g n) = lq_pk (fun i => Nat.xor (f i) (g i)) n := by
  apply lq_eq
  intro i j hj
  rw [lq_tx, lq_pk_tb hf i j hj, lq_pk_tb hg i j hj, lq_pk_tb (f := fun i => Nat.xor (f i) (g i)) (fun i hi => Nat.xor_lt_two_pow (hf i hi) (hg i hi)) i j hj, lq_tx]
  cases decide (i < n) <;> simp
theorem lq_shr {f : Nat → Nat} {n s m : Nat} (hf : ∀ i, i < n → f i < 2 ^ 64) (hs : s ≤ 64) (hm : m < 2 ^ (64 - s)) : Nat.land (Nat.shiftRight (lq_pk f n) s) (lq_pk (fun _ => m) n) = lq_pk (fun i => Nat.land (Nat.shiftRight (f i) s) m) n := by
  have m64 : m < 2 ^ 64 := Nat.lt_of_lt_of_le hm (Nat.pow_le_pow_right (by decide) (by omega))
  apply lq_eq
  intro i j hj
  rw [lq_tl, lq_pk_tb (fun _ _ => m64) i j hj, lq_pk_tb (f := fun i => Nat.land (Nat.shiftRight (f i) s) m) (fun i hi => Nat.and_lt_two_pow _ m64) i j hj, lq_tl]
  have e : ∀ a b c : Nat, (Nat.shiftRight a b).testBit c = a.testBit (b + c) := fun a b c => Nat.testBit_shiftRight a
  rw [e, e]
  by_cases c : j < 64 - s
  · rw [show s + (64 * i + j) = 64 * i + (s + j) from by omega, lq_pk_tb hf i (s + j) (by omega)]
    cases decide (i < n) <;> simp
  · have z : m.testBit j = false := Nat.testBit_lt_two_pow (Nat.lt_of_lt_of_le hm (Nat.pow_le_pow_right (by decide) (by omega)))
    rw [z]
    simp
