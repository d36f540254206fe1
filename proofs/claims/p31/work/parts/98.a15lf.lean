/-! lanes of a chunk, lanes of a list -/
def lq_X (n b : Nat) : Nat := Nat.add (lq_mk b n) (Nat.mul 256 (lq_rp 0 n))
theorem lq_X_pk (n b : Nat) : lq_X n b = lq_pk (fun i => b + 256 * i) n := by
  unfold lq_X
  rw [lq_mk_pk, lq_na, lq_nm, lq_rp_pk, lq_pk_mul, lq_pk_add]
  exact lq_pk_cg (fun i _ => by omega)
def lq_Xs (n b h : Nat) : Nat := lq_X n (Nat.add b (Nat.mul (Nat.mul 256 n) h))
theorem lq_Xs_ok {n b : Nat} (hb : b + 256 * n * 8 ≤ 2147483648) : ∀ h, h < 8 → lq_Xs n b h = lq_pk ((fun h i => b + 256 * n * h + 256 * i) h) n ∧ ∀ i, i < n → (fun h i => b + 256 * n * h + 256 * i) h i < 2147483648 := by
  intro h hh
  have le : 256 * n * h + 256 * n ≤ 256 * n * 8 := by
    have := Nat.mul_le_mul_left (256 * n) (show h + 1 ≤ 8 from hh)
    rw [Nat.mul_add, Nat.mul_one] at this
    exact this
  refine ⟨?_, fun i hi => ?_⟩
  · unfold lq_Xs
    rw [lq_X_pk]
    rfl
  · show b + 256 * n * h + 256 * i < 2147483648
    omega
def lq_ls : List Nat → Nat
  | [] => 0
  | x :: L => Nat.add (Nat.mul 18446744073709551616 (lq_ls L)) x
theorem lq_ls_pk : ∀ L : List Nat, lq_ls L = lq_pk (fun i => L.getD i 0) L.length := by
  intro L
  induction L with
  | nil => rfl
  | cons x L ih => show 18446744073709551616 * lq_ls L + x = 18446744073709551616 * lq_pk (fun i => L.getD i 0) L.length + x; rw [ih]
/-- rows of bits at lanes told by their x -/
def lq_bit (n b x : Nat) : Nat := Nat.shiftLeft 72340172838076673 (Nat.add (Nat.mul 64 (Nat.mod (Nat.div (Nat.sub x b) 256) n)) (Nat.div (Nat.div (Nat.sub x b) 256) n))
def lq_mask (n b : Nat) (L : List Nat) : Nat := L.foldl (fun r x => Nat.lor r (lq_bit n b x)) 0
theorem lq_mask_f (n b e : Nat) : ∀ (L : List Nat) (z : Nat), (L.foldl (fun r x => Nat.lor r (lq_bit n b x)) z).testBit e = (z.testBit e || L.any (fun x => (lq_bit n b x).testBit e)) := by
  intro L
  induction L with
  | nil => intro z; simp
  | cons a L ih => intro z; show (L.foldl _ (Nat.lor z (lq_bit n b a))).testBit e = _; rw [ih, lq_to, List.any_cons, Bool.or_assoc]
theorem lq_01 : ∀ k, k < 64 → (72340172838076673 : Nat).testBit k = decide (k % 8 = 0) := by decide +kernel
theorem lq_bit_ok {n b x i t h : Nat} (hn : 0 < n) (hx : (x - b) / 256 < 8 * n) (ht : t < 8) (hh : h < 8) (w : (lq_bit n b x).testBit (64 * i + (8 * t + h)) = true) : (x - b) / 256 = n * h + i := by
  have m := Nat.mod_lt ((x - b) / 256) hn
  have dv := Nat.div_add_mod ((x - b) / 256) n
  have q8 : (x - b) / 256 / n < 8 := by
    rw [Nat.div_lt_iff_lt_mul hn]
    exact hx
  have e : (Nat.shiftLeft 72340172838076673 (64 * ((x - b) / 256 % n) + (x - b) / 256 / n)).testBit (64 * i + (8 * t + h)) = true := w
  clear w
  generalize (x - b) / 256 = y at *
  have e2 : (Nat.shiftLeft 72340172838076673 (64 * (y % n) + y / n)).testBit (64 * i + (8 * t + h)) = (decide (64 * i + (8 * t + h) ≥ 64 * (y % n) + y / n) && (72340172838076673 : Nat).testBit (64 * i + (8 * t + h) - (64 * (y % n) + y / n))) := Nat.testBit_shiftLeft _
  rw [e2, Bool.and_eq_true] at e
  obtain ⟨e3, e4⟩ := e
  have e3 := of_decide_eq_true e3
  generalize y % n = a at *
  generalize y / n = g at *
  by_cases c : 64 * i + (8 * t + h) - (64 * a + g) < 64
  · rw [lq_01 _ c] at e4
    have e4 := of_decide_eq_true e4
    obtain ⟨k, hk⟩ : ∃ k, 64 * i + (8 * t + h) = 64 * a + g + 8 * k := ⟨(64 * i + (8 * t + h) - (64 * a + g)) / 8, by omega⟩
    have a2 : g = h := by omega
    have a1 : a = i := by omega
    rw [a1, a2] at dv
    exact dv.symm
  · rw [Nat.testBit_lt_two_pow (Nat.lt_of_lt_of_le (show (72340172838076673 : Nat) < 2 ^ 64 by decide) (Nat.pow_le_pow_right (by decide) (Nat.le_of_not_lt c)))] at e4
    exact absurd e4 (by decide)
def lq_in (n b : Nat) (L : List Nat) : List Nat := L.filter (fun x => Nat.ble b x && (Nat.blt x (b + 256 * (8 * n)) && Nat.beq (b + 256 * ((x - b) / 256)) x))
def lq_c1 (n b : Nat) (L : List Nat) : Bool := Nat.beq (Nat.lor (lq_R1 n (lq_Xs n b)) (lq_mask n b (lq_in n b L))) (lq_mask n b (lq_in n b L))
def lq_c2 (n : Nat) (L : Nat → List Nat) : Bool := Nat.beq (lq_R2 n (fun h => lq_ls (L h))) 0
theorem lq_ch_le {c : Nat} : ∀ {m k x : Nat}, k ≤ m → lq_ch c m x → lq_ch c k x := by
  intro m
  induction m with
  | zero => intro k x h _; rw [Nat.le_zero.mp h]; exact trivial
  | succ m ih =>
    intro k x h w
    cases k with
    | zero => exact trivial
    | succ k =>
      obtain ⟨s, hs, hr⟩ := w
      exact ⟨s, hs, ih (Nat.le_of_succ_le_succ h) hr⟩
theorem lq_sort {c : Nat} (h1 : 1 ≤ c) (h2 : c ≤ 99) : ∃ t, t < 8 ∧ lq_a t ≤ c ∧ c ≤ lq_b t := by
  have : ∀ c, c < 100 → 1 ≤ c → ∃ t, t < 8 ∧ lq_a t ≤ c ∧ c ≤ lq_b t := by decide +kernel
  exact this c (by omega) h1
/-- a chunk: whoever goes on is in the list -/
theorem lq_c1_ok {n b : Nat} {L : List Nat} (hn : 0 < n) (hb : b + 256 * n * 8 ≤ 2147483648) (ck : lq_c1 n b L = true) {i h c j : Nat} (hi : i < n) (hh : h < 8) (h1 : 1 ≤ c) (h2 : c ≤ 99) (hj : j < 30) (w : lq_ch c 8 (lq_i j (b + 256 * n * h + 256 * i))) : b + 256 * n * h + 256 * i ∈ L := by
  obtain ⟨t, ht, ha, hc⟩ := lq_sort h1 h2
  have r := lq_R1_ok (lq_Xs_ok hb) hi ht hh ⟨ha, hc⟩ hj (m := 8) (by omega) w
  have eq : Nat.lor (lq_R1 n (lq_Xs n b)) (lq_mask n b (lq_in n b L)) = lq_mask n b (lq_in n b L) := Nat.eq_of_beq_eq_true ck
  have mb : (lq_mask n b (lq_in n b L)).testBit (64 * i + (8 * t + h)) = true := by
    rw [← eq, lq_to, r, Bool.true_or]
  unfold lq_mask at mb
  rw [lq_mask_f, Nat.zero_testBit, Bool.false_or, List.any_eq_true] at mb
  obtain ⟨x, hx, hm⟩ := mb
  unfold lq_in at hx
  rw [List.mem_filter] at hx
  obtain ⟨hx, hr⟩ := hx
  rw [Bool.and_eq_true, Bool.and_eq_true] at hr
  have b1 : b ≤ x := Nat.le_of_ble_eq_true hr.1
  have b2 : x < b + 256 * (8 * n) := Nat.le_of_ble_eq_true hr.2.1
  have b3 : b + 256 * ((x - b) / 256) = x := Nat.eq_of_beq_eq_true hr.2.2
  have b4 := lq_bit_ok hn (by omega) ht hh hm
  rw [b4, Nat.mul_add, ← Nat.mul_assoc, ← Nat.add_assoc] at b3
  rw [b3]
  exact hx
/-- whoever is in a list ends -/
theorem lq_c2_ok {n : Nat} {L : Nat → List Nat} (hL : ∀ h, h < 8 → (L h).length = n ∧ ∀ x ∈ L h, x < 2147483648) (ck : lq_c2 n L = true) {h c j x : Nat} (hh : h < 8) (hx : x ∈ L h) (h1 : 1 ≤ c) (h2 : c ≤ 99) (hj : j < 30) : ¬ lq_ch c 13 (lq_i j x) := by
  intro w
  obtain ⟨t, ht, ha, hc⟩ := lq_sort h1 h2
  obtain ⟨i, hi, ex⟩ := List.mem_iff_getElem.mp hx
  have gx : (L h).getD i 0 = x := by rw [List.getD_eq_getElem?_getD, List.getElem?_eq_getElem hi]; exact ex
  have hX : ∀ h, h < 8 → (fun h => lq_ls (L h)) h = lq_pk ((fun h i => (L h).getD i 0) h) n ∧ ∀ i, i < n → (fun h i => (L h).getD i 0) h i < 2147483648 := fun h hh => by
    obtain ⟨l1, l2⟩ := hL h hh
    refine ⟨by show lq_ls (L h) = _; rw [lq_ls_pk, l1], fun i hi => ?_⟩
    show (L h).getD i 0 < _
    rw [List.getD_eq_getElem?_getD, List.getElem?_eq_getElem (by omega)]
    exact l2 _ (List.getElem_mem (by omega))
  have r := lq_R2_ok hX (by rw [← (hL h hh).1]; exact hi) ht hh ⟨ha, hc⟩ hj (m := 13) (by omega) (show lq_ch c 13 (lq_i j ((L h).getD i 0)) from by rw [gx]; exact w)
  have eq : lq_R2 n (fun h => lq_ls (L h)) = 0 := Nat.eq_of_beq_eq_true ck
  rw [eq, Nat.zero_testBit] at r
  exact absurd r (by decide)

