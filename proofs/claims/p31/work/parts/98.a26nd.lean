/-! ranks by strength -/
theorem smN_add (a b : Nat → Nat) : ∀ n, smN (fun j => a j + b j) n = smN a n + smN b n := by
  intro n
  induction n with
  | zero => rfl
  | succ n ih =>
    show smN (fun j => a j + b j) n + (a n + b n) = smN a n + a n + (smN b n + b n)
    rw [ih]; omega
theorem smN_one (r : Nat) : ∀ n, smN (fun v => if decide (r = v) = true then 1 else 0) n = if r < n then 1 else 0 := by
  intro n
  induction n with
  | zero => rfl
  | succ n ih =>
    show smN (fun v => if decide (r = v) = true then 1 else 0) n + (if decide (r = n) = true then 1 else 0) = _
    rw [ih]
    by_cases c : r = n
    · rw [if_neg (by omega), if_pos (decide_eq_true c), if_pos (by omega)]
    · rw [if_neg (fun w => c (of_decide_eq_true w))]
      by_cases c2 : r < n
      · rw [if_pos c2, if_pos (by omega)]
      · rw [if_neg c2, if_neg (by omega)]
theorem lq_rw_cg {p q : Nat → Bool} : ∀ {n : Nat}, (∀ j, j < n → p j = q j) → lq_rw p n = lq_rw q n := by
  intro n
  induction n with
  | zero => intro _; rfl
  | succ n ih =>
    intro h
    show lq_rw p n + (if p n = true then 1 else 0) = lq_rw q n + (if q n = true then 1 else 0)
    rw [ih (fun j hj => h j (by omega)), h n (by omega)]
theorem lq_rw_0 {p : Nat → Bool} {n : Nat} (h : ∀ j, j < n → p j = false) : lq_rw p n = 0 := lq_rw_k (n := 0) (Nat.zero_le _) (fun j _ w => h j w)
theorem lq_rw_1 {p : Nat → Bool} : ∀ {n : Nat}, (∀ i j, i < n → j < n → p i = true → p j = true → i = j) → lq_rw p n ≤ 1 := by
  intro n
  induction n with
  | zero => intro _; exact Nat.zero_le _
  | succ n ih =>
    intro h
    show lq_rw p n + (if p n = true then 1 else 0) ≤ 1
    by_cases c : p n = true
    · rw [lq_rw_0 (fun j hj => ?_), if_pos c]
      · exact Nat.le_refl _
      · cases e : p j with
        | false => rfl
        | true => have := h j n (by omega) (by omega) e c; omega
    · rw [if_neg c]
      exact ih (fun i j hi hj => h i j (by omega) (by omega))
theorem lq_rw_mono {p q : Nat → Bool} : ∀ {n : Nat}, (∀ j, j < n → p j = true → q j = true) → lq_rw p n ≤ lq_rw q n := by
  intro n
  induction n with
  | zero => intro _; exact Nat.le_refl _
  | succ n ih =>
    intro h
    have := ih (fun j hj => h j (by omega))
    show lq_rw p n + (if p n = true then 1 else 0) ≤ lq_rw q n + (if q n = true then 1 else 0)
    by_cases c : p n = true
    · rw [if_pos c, if_pos (h n (by omega) c)]; omega
    · rw [if_neg c]; omega
theorem lq_rw_lt {p q : Nat → Bool} {i : Nat} : ∀ {n : Nat}, (∀ j, j < n → p j = true → q j = true) → i < n → p i = false → q i = true → lq_rw p n < lq_rw q n := by
  intro n
  induction n with
  | zero => intro _ h; omega
  | succ n ih =>
    intro h hi e1 e2
    have m := lq_rw_mono (p := p) (q := q) (n := n) (fun j hj => h j (by omega))
    show lq_rw p n + (if p n = true then 1 else 0) < lq_rw q n + (if q n = true then 1 else 0)
    by_cases c : i = n
    · subst c
      rw [if_neg (by rw [e1]; decide), if_pos e2]; omega
    · have := ih (fun j hj => h j (by omega)) (by omega) e1 e2
      by_cases c : p n = true
      · rw [if_pos c, if_pos (h n (by omega) c)]; omega
      · rw [if_neg c]; omega
theorem lq_rw_le {p : Nat → Bool} : ∀ (n : Nat), lq_rw p n ≤ n := by
  intro n
  induction n with
  | zero => exact Nat.le_refl _
  | succ n ih =>
    show lq_rw p n + (if p n = true then 1 else 0) ≤ n + 1
    split <;> omega
theorem nPig0 {R : Nat → Nat} : ∀ n, n ≤ 6 → (∀ k, k < n → R k < 6) → smN (fun v => lq_rw (fun k => decide (R k = v)) n) 6 = n := by
  intro n
  induction n with
  | zero => intro _ _; rfl
  | succ n ih =>
    intro h b
    have e : (fun v => lq_rw (fun k => decide (R k = v)) (n + 1)) = fun v => lq_rw (fun k => decide (R k = v)) n + (if decide (R n = v) = true then 1 else 0) := rfl
    rw [e, smN_add, ih (by omega) (fun k hk => b k (by omega)), smN_one, if_pos (b n (by omega))]
theorem nPig {R : Nat → Nat} (b : ∀ k, k < 6 → R k < 6) (inj : ∀ j k, j < 6 → k < 6 → R j = R k → j = k) {i : Nat} (hi : i < 6) : ∃ k, k < 6 ∧ R k = i := by
  rcases Classical.em (∃ k, k < 6 ∧ R k = i) with h | h
  · exact h
  · exfalso
    have n : ∀ k, k < 6 → R k ≠ i := fun k hk e => h ⟨k, hk, e⟩
    have s := nPig0 (R := R) 6 (Nat.le_refl _) b
    have z : lq_rw (fun k => decide (R k = i)) 6 = 0 := lq_rw_0 (fun j hj => decide_eq_false (n j hj))
    have l : ∀ v, lq_rw (fun k => decide (R k = v)) 6 ≤ 1 := fun v => lq_rw_1 (fun x y hx hy ex ey => inj x y hx hy ((of_decide_eq_true ex).trans (of_decide_eq_true ey).symm))
    have l0 := l 0
    have l1 := l 1
    have l2 := l 2
    have l3 := l 3
    have l4 := l 4
    have l5 := l 5
    have u : smN (fun v => lq_rw (fun k => decide (R k = v)) 6) 6 = 0 + lq_rw (fun k => decide (R k = 0)) 6 + lq_rw (fun k => decide (R k = 1)) 6 + lq_rw (fun k => decide (R k = 2)) 6 + lq_rw (fun k => decide (R k = 3)) 6 + lq_rw (fun k => decide (R k = 4)) 6 + lq_rw (fun k => decide (R k = 5)) 6 := rfl
    have ci : i = 0 ∨ i = 1 ∨ i = 2 ∨ i = 3 ∨ i = 4 ∨ i = 5 := by omega
    rcases ci with e | e | e | e | e | e <;> subst e <;> omega
/-- how many are stronger -/
def nRk (κ : Nat → Int) (k : Nat) : Nat := lq_rw (fun j => decide (κ k < κ j)) 6
def nKi (κ : Nat → Int) : Prop := ∀ i j, i < 6 → j < 6 → κ i = κ j → i = j
theorem nRk_lt {κ : Nat → Int} {k : Nat} (hk : k < 6) : nRk κ k < 6 := by
  have a := lq_rw_lt (p := fun j => decide (κ k < κ j)) (q := fun _ => true) (i := k) (n := 6) (fun _ _ _ => rfl) hk (decide_eq_false (by omega)) rfl
  have b := lq_rw_le (p := fun _ => true) 6
  unfold nRk
  omega
theorem nRk_mono {κ : Nat → Int} {j k : Nat} (hk : k < 6) (h : κ j < κ k) : nRk κ k < nRk κ j := lq_rw_lt (i := k) (fun i _ w => decide_eq_true (by have := of_decide_eq_true w; omega)) hk (decide_eq_false (by omega)) (decide_eq_true h)
theorem nRk_inj {κ : Nat → Int} (h : nKi κ) : ∀ j k, j < 6 → k < 6 → nRk κ j = nRk κ k → j = k := fun j k hj hk e => by
  refine h j k hj hk ?_
  rcases Int.lt_trichotomy (κ j) (κ k) with w | w | w
  · have := nRk_mono hk w; omega
  · exact w
  · have := nRk_mono hj w; omega
def s6 (F : Nat → Int) : Int := F 0 + F 1 + F 2 + F 3 + F 4 + F 5
theorem s6_cg {F G : Nat → Int} (h : ∀ k, k < 6 → F k = G k) : s6 F = s6 G := by
  unfold s6
  rw [h 0 (by decide), h 1 (by decide), h 2 (by decide), h 3 (by decide), h 4 (by decide), h 5 (by decide)]
theorem s6_one {F : Nat → Int} {k : Nat} (hk : k < 6) (h : ∀ j, j < 6 → j ≠ k → F j = 0) : s6 F = F k := by
  unfold s6
  have c : k = 0 ∨ k = 1 ∨ k = 2 ∨ k = 3 ∨ k = 4 ∨ k = 5 := by omega
  have q := fun j hj ne => h j hj ne
  rcases c with e | e | e | e | e | e <;> subst e
  · rw [q 1 (by decide) (by decide), q 2 (by decide) (by decide), q 3 (by decide) (by decide), q 4 (by decide) (by decide), q 5 (by decide) (by decide)]; omega
  · rw [q 0 (by decide) (by decide), q 2 (by decide) (by decide), q 3 (by decide) (by decide), q 4 (by decide) (by decide), q 5 (by decide) (by decide)]; omega
  · rw [q 1 (by decide) (by decide), q 0 (by decide) (by decide), q 3 (by decide) (by decide), q 4 (by decide) (by decide), q 5 (by decide) (by decide)]; omega
  · rw [q 1 (by decide) (by decide), q 2 (by decide) (by decide), q 0 (by decide) (by decide), q 4 (by decide) (by decide), q 5 (by decide) (by decide)]; omega
  · rw [q 1 (by decide) (by decide), q 2 (by decide) (by decide), q 3 (by decide) (by decide), q 0 (by decide) (by decide), q 5 (by decide) (by decide)]; omega
  · rw [q 1 (by decide) (by decide), q 2 (by decide) (by decide), q 3 (by decide) (by decide), q 4 (by decide) (by decide), q 0 (by decide) (by decide)]; omega
theorem s6_swap (a : Nat → Nat → Int) : s6 (fun i => s6 (fun k => a i k)) = s6 (fun k => s6 (fun i => a i k)) := by
  simp only [s6]
  omega
/-- the gates by rank -/
theorem nSort {κ : Nat → Int} (h : nKi κ) : ∃ g : Nat → Nat, (∀ i, i < 6 → g i < 6) ∧ (∀ i, i < 6 → nRk κ (g i) = i) ∧ (∀ k, k < 6 → g (nRk κ k) = k) ∧ ∀ F : Nat → Int, s6 (fun i => F (g i)) = s6 F := by
  have pg := fun (i : Nat) (hi : i < 6) => nPig (R := nRk κ) (fun k hk => nRk_lt hk) (nRk_inj h) hi
  obtain ⟨g, hg⟩ : ∃ g : Nat → Nat, ∀ i, i < 6 → g i < 6 ∧ nRk κ (g i) = i := ⟨fun i => if w : i < 6 then Classical.choose (pg i w) else 0, fun i hi => by
    show (if w : i < 6 then Classical.choose (pg i w) else 0) < 6 ∧ nRk κ (if w : i < 6 then Classical.choose (pg i w) else 0) = i
    rw [dif_pos hi]
    exact Classical.choose_spec (pg i hi)⟩
  have g6 := fun i hi => (hg i hi).1
  have gr := fun i hi => (hg i hi).2
  have gi : ∀ k, k < 6 → g (nRk κ k) = k := fun k hk => nRk_inj h _ _ (g6 _ (nRk_lt hk)) hk (gr _ (nRk_lt hk))
  refine ⟨g, g6, gr, gi, fun F => ?_⟩
  have row : ∀ i, i < 6 → s6 (fun k => if nRk κ k = i then F k else 0) = F (g i) := fun i hi => by
    rw [s6_one (k := g i) (g6 i hi) (fun j hj ne => if_neg (fun e => ne (nRk_inj h _ _ hj (g6 i hi) (by rw [gr i hi]; exact e)))), if_pos (gr i hi)]
  have col : ∀ k, k < 6 → s6 (fun i => if nRk κ k = i then F k else 0) = F k := fun k hk => by
    rw [s6_one (k := nRk κ k) (nRk_lt hk) (fun j hj ne => if_neg (fun e => ne e.symm)), if_pos rfl]
  rw [s6_cg (fun i hi => (row i hi).symm), s6_swap (fun i k => if nRk κ k = i then F k else 0), s6_cg col]
def nCl (r h : Nat) (v : Int) : Int := if r ≤ 2 then tq_X h else if r ≤ 4 then tq_Y h v else tq_Z h v
/-- what a group counts -/
def nCt (κ : Nat → Int) (h : Nat → Nat) (v : Nat → Int) : Int := s6 (fun k => nCl (nRk κ k) (h k) (v k))
theorem nCt_g {κ : Nat → Int} {g : Nat → Nat} {h : Nat → Nat} {v : Nat → Int} (gr : ∀ i, i < 6 → nRk κ (g i) = i) (sm : ∀ F : Nat → Int, s6 (fun i => F (g i)) = s6 F) : nCt κ h v = tq_X (h (g 0)) + tq_X (h (g 1)) + tq_X (h (g 2)) + tq_Y (h (g 3)) (v (g 3)) + tq_Y (h (g 4)) (v (g 4)) + tq_Z (h (g 5)) (v (g 5)) := by
  unfold nCt
  rw [← sm]
  show nCl (nRk κ (g 0)) _ _ + nCl (nRk κ (g 1)) _ _ + nCl (nRk κ (g 2)) _ _ + nCl (nRk κ (g 3)) _ _ + nCl (nRk κ (g 4)) _ _ + nCl (nRk κ (g 5)) _ _ = _
  rw [gr 0 (by decide), gr 1 (by decide), gr 2 (by decide), gr 3 (by decide), gr 4 (by decide), gr 5 (by decide)]
  rfl
theorem tq_X_b (h : Nat) : 0 ≤ tq_X h ∧ tq_X h ≤ 1 := by unfold tq_X; split <;> omega
theorem tq_Y_b (h : Nat) (v : Int) : -2 ≤ tq_Y h v ∧ tq_Y h v ≤ 0 := by
  have := tq_r_b v
  unfold tq_Y
  split
  · omega
  · split <;> omega
theorem tq_Z_b (h : Nat) (v : Int) : -2 ≤ tq_Z h v ∧ tq_Z h v ≤ 2 := by
  unfold tq_Z
  split
  · omega
  · split
    · split
      · omega
      · split
        · omega
        · split <;> omega
    · omega
theorem nCt_b {κ : Nat → Int} (hκ : nKi κ) (h : Nat → Nat) (v : Nat → Int) : -6 ≤ nCt κ h v ∧ nCt κ h v ≤ 5 := by
  obtain ⟨g, g6, gr, gi, sm⟩ := nSort hκ
  rw [nCt_g gr sm]
  have := tq_X_b (h (g 0))
  have := tq_X_b (h (g 1))
  have := tq_X_b (h (g 2))
  have := tq_Y_b (h (g 3)) (v (g 3))
  have := tq_Y_b (h (g 4)) (v (g 4))
  have := tq_Z_b (h (g 5)) (v (g 5))
  omega
