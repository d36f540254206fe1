/-! planes: of n lanes, of eight sorts of chance -/
def lq_on : Nat → Nat
  | 0 => 0
  | n + 1 => Nat.add (Nat.mul 18446744073709551616 (lq_on n)) 1
def lq_rp : Nat → Nat → Nat
  | _, 0 => 0
  | a, n + 1 => Nat.add (Nat.mul 18446744073709551616 (lq_rp (Nat.add a 1) n)) a
theorem lq_on_pk : ∀ n, lq_on n = lq_pk (fun _ => 1) n := by
  intro n
  induction n with
  | zero => rfl
  | succ n ih => show 18446744073709551616 * lq_on n + 1 = _; rw [ih]; rfl
theorem lq_rp_pk : ∀ n a, lq_rp a n = lq_pk (fun i => a + i) n := by
  intro n
  induction n with
  | zero => intro a; rfl
  | succ n ih =>
    intro a
    show 18446744073709551616 * lq_rp (a + 1) n + a = 18446744073709551616 * lq_pk (fun i => a + (i + 1)) n + (a + 0)
    rw [ih, lq_pk_cg (f := fun i => a + 1 + i) (g := fun i => a + (i + 1)) (fun i _ => by omega)]
    rfl
def lq_mk (k n : Nat) : Nat := Nat.mul k (lq_on n)
def lq_x (n X j : Nat) : Nat := Nat.land (Nat.add (Nat.mul (lq_A j) X) (lq_mk (lq_C j) n)) (lq_mk 2147483647 n)
def lq_y (n X j : Nat) : Nat := Nat.land (Nat.shiftRight (lq_x n X j) 6) (lq_mk 33554431 n)
def lq_q (n X j : Nat) : Nat := Nat.land (Nat.shiftRight (Nat.mul 42949673 (lq_y n X j)) 32) (lq_mk 524287 n)
def lq_z (n X j : Nat) : Nat := Nat.mul 72340172838076673 (Nat.sub (lq_y n X j) (Nat.mul 100 (lq_q n X j)))
def lq_n1 (n X j : Nat) : Nat := Nat.land (Nat.shiftRight (Nat.add (lq_z n X j) (lq_mk 4487359103410136703 n)) 7) (lq_mk 72340172838076673 n)
def lq_l1 (n X j : Nat) : Nat := Nat.xor (Nat.land (Nat.shiftRight (Nat.add (lq_z n X j) (lq_mk 2107481552397754727 n)) 7) (lq_mk 72340172838076673 n)) (lq_mk 72340172838076673 n)
def lq_vN (d : Nat) : Nat := Nat.land (Nat.shiftRight (Nat.add (Nat.mul 72340172838076673 d) 4487359103410136703) 7) 72340172838076673
def lq_vL (d : Nat) : Nat := Nat.xor (Nat.land (Nat.shiftRight (Nat.add (Nat.mul 72340172838076673 d) 2107481552397754727) 7) 72340172838076673) 72340172838076673
theorem lq_mk_pk (k n : Nat) : lq_mk k n = lq_pk (fun _ => k) n := by
  unfold lq_mk
  rw [show Nat.mul k (lq_on n) = k * lq_on n from rfl, lq_on_pk, lq_pk_mul]
  exact lq_pk_cg (fun _ _ => Nat.mul_one k)
theorem lq_na (a b : Nat) : Nat.add a b = a + b := rfl
theorem lq_nm (a b : Nat) : Nat.mul a b = a * b := rfl
theorem lq_ns (a b : Nat) : Nat.sub a b = a - b := rfl
theorem lq_and31 (y : Nat) : Nat.land y 2147483647 = y % 2147483648 := Nat.and_two_pow_sub_one_eq_mod y 31
theorem lq_and25 (y : Nat) : Nat.land y 33554431 = y % 33554432 := Nat.and_two_pow_sub_one_eq_mod y 25
theorem lq_and19 (y : Nat) : Nat.land y 524287 = y % 524288 := Nat.and_two_pow_sub_one_eq_mod y 19
theorem lq_sr (y s : Nat) : Nat.shiftRight y s = y / 2 ^ s := Nat.shiftRight_eq_div_pow y s
theorem lq_x_pk {n : Nat} {F : Nat → Nat} (hb : ∀ i, i < n → F i < 2147483648) (j : Nat) : lq_x n (lq_pk F n) j = lq_pk (fun i => lq_i j (F i)) n := by
  unfold lq_x
  rw [lq_mk_pk, lq_mk_pk, lq_na, lq_nm, lq_pk_mul, lq_pk_add, lq_land (fun i hi => ?_) (fun _ _ => by decide)]
  · refine lq_pk_cg (fun i hi => ?_)
    rw [lq_and31, lq_AC (hb i hi)]
  · have h1 := lq_A_lt j
    have h2 := lq_C_lt j
    have h0 := hb i hi
    have h3 : lq_A j * F i ≤ 2147483648 * 2147483648 := Nat.mul_le_mul (by omega) (by omega)
    show lq_A j * (F i) + lq_C j < _
    omega
theorem lq_y_pk {n : Nat} {F : Nat → Nat} (hb : ∀ i, i < n → F i < 2147483648) (j : Nat) : lq_y n (lq_pk F n) j = lq_pk (fun i => lq_i j (F i) / 64) n := by
  unfold lq_y
  rw [lq_x_pk hb, lq_mk_pk, lq_shr (fun i hi => ?_) (by decide) (by decide)]
  · refine lq_pk_cg (fun i hi => ?_)
    have := lq_i_lt (n := j) (x := F i) (hb i hi)
    rw [lq_and25, lq_sr]
    show lq_i j (F i) / 64 % 33554432 = _
    omega
  · have := lq_i_lt (n := j) (x := F i) (hb i hi)
    omega
theorem lq_div {y : Nat} (h : y < 33554432) : y * 42949673 / 4294967296 = y / 100 := by omega
theorem lq_q_pk {n : Nat} {F : Nat → Nat} (hb : ∀ i, i < n → F i < 2147483648) (j : Nat) : lq_q n (lq_pk F n) j = lq_pk (fun i => lq_i j (F i) / 64 / 100) n := by
  unfold lq_q
  rw [lq_y_pk hb, lq_mk_pk, lq_nm, lq_pk_mul, lq_shr (fun i hi => ?_) (by decide) (by decide)]
  · refine lq_pk_cg (fun i hi => ?_)
    have := lq_i_lt (n := j) (x := F i) (hb i hi)
    have e := lq_div (y := lq_i j (F i) / 64) (by omega)
    rw [lq_and19, lq_sr, Nat.mul_comm]
    show lq_i j (F i) / 64 * 42949673 / 4294967296 % 524288 = _
    rw [e]
    omega
  · have := lq_i_lt (n := j) (x := F i) (hb i hi)
    show 42949673 * (lq_i j (F i) / 64) < _
    omega
theorem lq_z_pk {n : Nat} {F : Nat → Nat} (hb : ∀ i, i < n → F i < 2147483648) (j : Nat) : lq_z n (lq_pk F n) j = lq_pk (fun i => 72340172838076673 * lq_d (lq_i j (F i))) n := by
  unfold lq_z
  rw [lq_y_pk hb, lq_q_pk hb, lq_nm, lq_nm, lq_ns, lq_pk_mul, lq_pk_sub (fun i hi => by omega), lq_pk_mul]
  refine lq_pk_cg (fun i hi => ?_)
  show 72340172838076673 * (lq_i j (F i) / 64 - 100 * (lq_i j (F i) / 64 / 100)) = 72340172838076673 * (lq_i j (F i) / 64 % 100)
  rw [show lq_i j (F i) / 64 - 100 * (lq_i j (F i) / 64 / 100) = lq_i j (F i) / 64 % 100 from by omega]
theorem lq_land_lt {a b : Nat} (h : b < 2 ^ 64) : Nat.land a b < 2 ^ 64 := Nat.and_lt_two_pow a h
theorem lq_d_lt (x : Nat) : lq_d x < 100 := Nat.mod_lt _ (by decide)
theorem lq_n1_pk {n : Nat} {F : Nat → Nat} (hb : ∀ i, i < n → F i < 2147483648) (j : Nat) : lq_n1 n (lq_pk F n) j = lq_pk (fun i => lq_vN (lq_d (lq_i j (F i)))) n := by
  unfold lq_n1
  rw [lq_z_pk hb, lq_mk_pk, lq_mk_pk, lq_na, lq_pk_add, lq_shr (fun i hi => ?_) (by decide) (by decide)]
  · rfl
  · have := lq_d_lt (lq_i j (F i))
    show 72340172838076673 * lq_d (lq_i j (F i)) + 4487359103410136703 < _
    omega
theorem lq_l1_pk {n : Nat} {F : Nat → Nat} (hb : ∀ i, i < n → F i < 2147483648) (j : Nat) : lq_l1 n (lq_pk F n) j = lq_pk (fun i => lq_vL (lq_d (lq_i j (F i)))) n := by
  unfold lq_l1
  rw [lq_z_pk hb, lq_mk_pk, lq_mk_pk, lq_na, lq_pk_add, lq_shr (fun i hi => ?_) (by decide) (by decide), lq_xor (fun i hi => lq_land_lt (by decide)) (fun _ _ => by decide)]
  · rfl
  · have := lq_d_lt (lq_i j (F i))
    show 72340172838076673 * lq_d (lq_i j (F i)) + 2107481552397754727 < _
    omega
def lq_a (t : Nat) : Nat := [1, 26, 32, 38, 44, 51, 58, 66].getD t 0
def lq_b (t : Nat) : Nat := [25, 31, 37, 43, 50, 57, 65, 99].getD t 0
theorem lq_vN_tb : ∀ d, d < 100 → ∀ k, k < 64 → (lq_vN d).testBit k = (decide (k % 8 = 0) && decide (lq_a (k / 8) ≤ d)) := by decide +kernel
theorem lq_vL_tb : ∀ d, d < 100 → ∀ k, k < 64 → (lq_vL d).testBit k = (decide (k % 8 = 0) && decide (d < lq_b (k / 8))) := by decide +kernel
theorem lq_v_lt : ∀ d, d < 100 → lq_vN d < 18446744073709551616 ∧ lq_vL d < 18446744073709551616 := by decide +kernel
theorem lq_sh {V : Nat → Nat} {n : Nat} (hV : ∀ i, i < n → V i < 2 ^ 64) (h8 : ∀ i, i < n → ∀ k, k < 64 → k % 8 ≠ 0 → (V i).testBit k = false) {i k h : Nat} (hi : i < n) (hk : k < 64) (hh : h < 8) : (Nat.shiftLeft (lq_pk V n) h).testBit (64 * i + k) = (decide (h ≤ k) && (V i).testBit (k - h)) := by
  have e : (Nat.shiftLeft (lq_pk V n) h).testBit (64 * i + k) = (decide (64 * i + k ≥ h) && (lq_pk V n).testBit (64 * i + k - h)) := Nat.testBit_shiftLeft _
  rw [e]
  by_cases c : h ≤ k
  · rw [show 64 * i + k - h = 64 * i + (k - h) from by omega, lq_pk_tb hV i (k - h) (by omega), decide_eq_true (show 64 * i + k ≥ h from by omega), decide_eq_true c, decide_eq_true hi, Bool.true_and]
  · rw [decide_eq_false c, Bool.false_and]
    cases i with
    | zero => rw [decide_eq_false (show ¬ 64 * 0 + k ≥ h from by omega), Bool.false_and]
    | succ i => rw [show 64 * (i + 1) + k - h = 64 * i + (64 + k - h) from by omega, lq_pk_tb hV i (64 + k - h) (by omega), h8 i (by omega) _ (by omega) (by omega), Bool.and_false, Bool.and_false]
def lq_pn (n : Nat) (Xs : Nat → Nat) (j : Nat) : Nat := (Nat.lor (Nat.lor (Nat.lor (Nat.lor (Nat.lor (Nat.lor (Nat.lor (Nat.shiftLeft (lq_n1 n (Xs 0) j) 0) (Nat.shiftLeft (lq_n1 n (Xs 1) j) 1)) (Nat.shiftLeft (lq_n1 n (Xs 2) j) 2)) (Nat.shiftLeft (lq_n1 n (Xs 3) j) 3)) (Nat.shiftLeft (lq_n1 n (Xs 4) j) 4)) (Nat.shiftLeft (lq_n1 n (Xs 5) j) 5)) (Nat.shiftLeft (lq_n1 n (Xs 6) j) 6)) (Nat.shiftLeft (lq_n1 n (Xs 7) j) 7))
def lq_pl (n : Nat) (Xs : Nat → Nat) (j : Nat) : Nat := (Nat.lor (Nat.lor (Nat.lor (Nat.lor (Nat.lor (Nat.lor (Nat.lor (Nat.shiftLeft (lq_l1 n (Xs 0) j) 0) (Nat.shiftLeft (lq_l1 n (Xs 1) j) 1)) (Nat.shiftLeft (lq_l1 n (Xs 2) j) 2)) (Nat.shiftLeft (lq_l1 n (Xs 3) j) 3)) (Nat.shiftLeft (lq_l1 n (Xs 4) j) 4)) (Nat.shiftLeft (lq_l1 n (Xs 5) j) 5)) (Nat.shiftLeft (lq_l1 n (Xs 6) j) 6)) (Nat.shiftLeft (lq_l1 n (Xs 7) j) 7))
theorem lq_pn_tb {n : Nat} {F : Nat → Nat → Nat} {Xs : Nat → Nat} (hX : ∀ h, h < 8 → Xs h = lq_pk (F h) n ∧ ∀ i, i < n → F h i < 2147483648) (j : Nat) {i t h : Nat} (hi : i < n) (ht : t < 8) (hh : h < 8) (w : lq_a t ≤ lq_d (lq_i j (F h i))) : (lq_pn n Xs j).testBit (64 * i + (8 * t + h)) = true := by
  have o : (Nat.shiftLeft (lq_n1 n (Xs h) j) h).testBit (64 * i + (8 * t + h)) = true := by
    rw [(hX h hh).1, lq_n1_pk (hX h hh).2 j, lq_sh (fun i _ => (lq_v_lt _ (lq_d_lt _)).1) (fun i _ k hk hn => by rw [lq_vN_tb _ (lq_d_lt _) k hk, decide_eq_false hn, Bool.false_and]) hi (by omega) hh, lq_vN_tb _ (lq_d_lt _) _ (by omega), show 8 * t + h - h = 8 * t from by omega, show 8 * t % 8 = 0 from by omega, show 8 * t / 8 = t from by omega, decide_eq_true w, decide_eq_true (show h ≤ 8 * t + h from by omega)]
    rfl
  unfold lq_pn
  rw [lq_to, lq_to, lq_to, lq_to, lq_to, lq_to, lq_to]
  have c8 : h = 0 ∨ h = 1 ∨ h = 2 ∨ h = 3 ∨ h = 4 ∨ h = 5 ∨ h = 6 ∨ h = 7 := by omega
  rcases c8 with c | c | c | c | c | c | c | c <;> subst c <;> rw [o] <;> simp
theorem lq_pl_tb {n : Nat} {F : Nat → Nat → Nat} {Xs : Nat → Nat} (hX : ∀ h, h < 8 → Xs h = lq_pk (F h) n ∧ ∀ i, i < n → F h i < 2147483648) (j : Nat) {i t h : Nat} (hi : i < n) (ht : t < 8) (hh : h < 8) (w : lq_d (lq_i j (F h i)) < lq_b t) : (lq_pl n Xs j).testBit (64 * i + (8 * t + h)) = true := by
  have o : (Nat.shiftLeft (lq_l1 n (Xs h) j) h).testBit (64 * i + (8 * t + h)) = true := by
    rw [(hX h hh).1, lq_l1_pk (hX h hh).2 j, lq_sh (fun i _ => (lq_v_lt _ (lq_d_lt _)).2) (fun i _ k hk hn => by rw [lq_vL_tb _ (lq_d_lt _) k hk, decide_eq_false hn, Bool.false_and]) hi (by omega) hh, lq_vL_tb _ (lq_d_lt _) _ (by omega), show 8 * t + h - h = 8 * t from by omega, show 8 * t % 8 = 0 from by omega, show 8 * t / 8 = t from by omega, decide_eq_true w, decide_eq_true (show h ≤ 8 * t + h from by omega)]
    rfl
  unfold lq_pl
  rw [lq_to, lq_to, lq_to, lq_to, lq_to, lq_to, lq_to]
  have c8 : h = 0 ∨ h = 1 ∨ h = 2 ∨ h = 3 ∨ h = 4 ∨ h = 5 ∨ h = 6 ∨ h = 7 := by omega
  rcases c8 with c | c | c | c | c | c | c | c <;> subst c <;> rw [o] <;> simp
