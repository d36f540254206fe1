/-! one reader of a turn: how it is (0 down, 1 WAITS, 2 HOLDS), its CLOCK, moves so far; letters 0 none (or LOST), 1 of a stronger one, 2 of a weaker one -/
def tq_l (τ : Nat) (s s' : Nat × Int × Nat) : Prop :=
  (τ = 0 ∧ s' = s) ∨ (τ = 1 ∧ ((s.1 = 2 ∧ s'.1 = 1 ∧ 3 ≤ s'.2.1 ∧ s'.2.2 = s.2.2 + 1) ∨ (s.1 = 1 ∧ s'.1 = 1 ∧ 3 ≤ s'.2.1 ∧ s'.2.2 = s.2.2))) ∨ (τ = 2 ∧ ((s.1 = 2 ∧ s' = s) ∨ (s.1 = 1 ∧ s'.1 = 2 ∧ s'.2.2 = s.2.2 + 1) ∨ (s.1 = 1 ∧ s'.1 = 1 ∧ 3 ≤ s'.2.1 ∧ s'.2.2 = s.2.2)))
def tq_g (τ : Nat → Nat) (a : Nat) : Nat → Nat × Int × Nat → Nat × Int × Nat → Prop
  | 0, s, s' => s' = s
  | n + 1, s, s' => ∃ t, tq_g τ a n s t ∧ tq_l (τ (a + n)) t s'
def tq_h (s : Nat × Int × Nat) : Nat := if s.1 = 2 then 1 else 0
def tq_c (v : Nat) (τ : Nat → Nat) (a : Nat) : Nat → Nat
  | 0 => 0
  | n + 1 => tq_c v τ a n + (if τ (a + n) = v then 1 else 0)
theorem tq_split {τ : Nat → Nat} {a n : Nat} {s s' : Nat × Int × Nat} : ∀ {k : Nat}, tq_g τ a (n + k) s s' → ∃ t, tq_g τ a n s t ∧ tq_g τ (a + n) k t s' := by
  intro k
  induction k generalizing s' with
  | zero => intro h; exact ⟨s', h, rfl⟩
  | succ k ih =>
    intro h
    obtain ⟨t, h1, h2⟩ := h
    obtain ⟨u, h3, h4⟩ := ih h1
    refine ⟨u, h3, t, h4, ?_⟩
    rw [Nat.add_assoc]
    exact h2
/-- of one that is up: give-ups are at most the letters of stronger ones, begins those of weaker ones; both are tied -/
theorem tq_up {τ : Nat → Nat} {a : Nat} {s : Nat × Int × Nat} (hu : s.1 = 1 ∨ s.1 = 2) : ∀ {n : Nat} {s' : Nat × Int × Nat}, tq_g τ a n s s' → (s'.1 = 1 ∨ s'.1 = 2) ∧ (s' = s ∨ s'.1 = 2 ∨ 3 ≤ s'.2.1) ∧ ∃ G B : Nat, G ≤ tq_c 1 τ a n ∧ B ≤ tq_c 2 τ a n ∧ s'.2.2 = s.2.2 + G + B ∧ tq_h s' + G = tq_h s + B := by
  intro n
  induction n with
  | zero => intro s' h; subst h; exact ⟨hu, Or.inl rfl, 0, 0, Nat.le_refl _, Nat.le_refl _, rfl, rfl⟩
  | succ n ih =>
    intro s' h
    obtain ⟨t, h1, h2⟩ := h
    obtain ⟨u, d, G, B, g1, b1, e1, e2⟩ := ih h1
    show (s'.1 = 1 ∨ s'.1 = 2) ∧ (s' = s ∨ s'.1 = 2 ∨ 3 ≤ s'.2.1) ∧ ∃ G B : Nat, G ≤ tq_c 1 τ a n + (if τ (a + n) = 1 then 1 else 0) ∧ B ≤ tq_c 2 τ a n + (if τ (a + n) = 2 then 1 else 0) ∧ s'.2.2 = s.2.2 + G + B ∧ tq_h s' + G = tq_h s + B
    rcases h2 with ⟨q, e⟩ | ⟨q, ⟨c1, c2, c3, c4⟩ | ⟨c1, c2, c3, c4⟩⟩ | ⟨q, ⟨c1, e⟩ | ⟨c1, c2, c3⟩ | ⟨c1, c2, c3, c4⟩⟩
    · subst e; exact ⟨u, d, G, B, by omega, by omega, e1, e2⟩
    · refine ⟨Or.inl c2, Or.inr (Or.inr c3), G + 1, B, by rw [if_pos q]; omega, by omega, by omega, ?_⟩
      unfold tq_h at *
      rw [if_pos c1] at e2
      rw [if_neg (by omega)]
      omega
    · refine ⟨Or.inl c2, Or.inr (Or.inr c3), G, B, by omega, by omega, by omega, ?_⟩
      unfold tq_h at *
      rw [if_neg (by omega)] at e2
      rw [if_neg (by omega)]
      omega
    · subst e; exact ⟨u, d, G, B, by omega, by omega, e1, e2⟩
    · refine ⟨Or.inr c2, Or.inr (Or.inl c2), G, B + 1, by omega, by rw [if_pos q]; omega, by omega, ?_⟩
      unfold tq_h at *
      rw [if_neg (by omega)] at e2
      rw [if_pos c2]
      omega
    · refine ⟨Or.inl c2, Or.inr (Or.inr c3), G, B, by omega, by omega, by omega, ?_⟩
      unfold tq_h at *
      rw [if_neg (by omega)] at e2
      rw [if_neg (by omega)]
      omega
theorem tq_c0 {v : Nat} {τ : Nat → Nat} {a : Nat} : ∀ {n : Nat}, (∀ f, a ≤ f → f < a + n → τ f ≠ v) → tq_c v τ a n = 0 := by
  intro n
  induction n with
  | zero => intro _; rfl
  | succ n ih =>
    intro h
    show tq_c v τ a n + (if τ (a + n) = v then 1 else 0) = 0
    rw [ih (fun f h1 h2 => h f h1 (by omega)), if_neg (h (a + n) (by omega) (by omega))]
theorem tq_c1 {v : Nat} {τ : Nat → Nat} {a p : Nat} : ∀ {n : Nat}, (∀ f, a ≤ f → f < a + n → τ f = v → f = p) → tq_c v τ a n ≤ 1 := by
  intro n
  induction n with
  | zero => intro _; exact Nat.zero_le _
  | succ n ih =>
    intro h
    show tq_c v τ a n + (if τ (a + n) = v then 1 else 0) ≤ 1
    by_cases c : τ (a + n) = v
    · have e := h (a + n) (by omega) (by omega) c
      rw [if_pos c, tq_c0 (fun f h1 h2 w => by have := h f h1 (by omega) w; omega)]
      exact Nat.le_refl _
    · rw [if_neg c]
      exact ih (fun f h1 h2 w => h f h1 (by omega) w)
theorem tq_c2 {v : Nat} {τ : Nat → Nat} {a p q : Nat} : ∀ {n : Nat}, (∀ f, a ≤ f → f < a + n → τ f = v → f = p ∨ f = q) → tq_c v τ a n ≤ 2 := by
  intro n
  induction n with
  | zero => intro _; exact Nat.zero_le _
  | succ n ih =>
    intro h
    show tq_c v τ a n + (if τ (a + n) = v then 1 else 0) ≤ 2
    by_cases c : τ (a + n) = v
    · rw [if_pos c]
      rcases h (a + n) (by omega) (by omega) c with e | e
      · have := tq_c1 (v := v) (τ := τ) (a := a) (p := q) (n := n) (fun f h1 h2 w => by rcases h f h1 (by omega) w with x | x <;> omega)
        omega
      · have := tq_c1 (v := v) (τ := τ) (a := a) (p := p) (n := n) (fun f h1 h2 w => by rcases h f h1 (by omega) w with x | x <;> omega)
        omega
    · rw [if_neg c]
      exact ih (fun f h1 h2 w => h f h1 (by omega) w)
/-- begins (give-ups) are bounded below by the count too: none without such letters -/
theorem tq_no1 {τ : Nat → Nat} {a n : Nat} {s s' : Nat × Int × Nat} (hu : s.1 = 1 ∨ s.1 = 2) (h : tq_g τ a n s s') (h1 : ∀ f, a ≤ f → f < a + n → τ f ≠ 1) : s'.2.2 + tq_h s = s.2.2 + tq_h s' ∧ tq_h s ≤ tq_h s' := by
  obtain ⟨-, -, G, B, g, b, e1, e2⟩ := tq_up hu h
  rw [tq_c0 h1] at g
  omega
theorem tq_no2 {τ : Nat → Nat} {a n : Nat} {s s' : Nat × Int × Nat} (hu : s.1 = 1 ∨ s.1 = 2) (h : tq_g τ a n s s') (h2 : ∀ f, a ≤ f → f < a + n → τ f ≠ 2) : s'.2.2 + tq_h s' = s.2.2 + tq_h s ∧ tq_h s' ≤ tq_h s := by
  obtain ⟨-, -, G, B, g, b, e1, e2⟩ := tq_up hu h
  rw [tq_c0 h2] at b
  omega
theorem tq_one {τ : Nat → Nat} {a : Nat} {s s' : Nat × Int × Nat} (h : tq_g τ a 1 s s') : tq_l (τ a) s s' := by
  obtain ⟨t, h1, h2⟩ := h
  have : t = s := h1
  rw [this] at h2
  exact h2
theorem tq_h01 (s : Nat × Int × Nat) : tq_h s ≤ 1 := by unfold tq_h; split <;> omega
/-- two give-ups by letters at p, q alone: both come, and between them one of a weaker one -/
theorem tq_two1 {τ : Nat → Nat} {p q : Nat} {s s' : Nat × Int × Nat} (hu : s.1 = 1 ∨ s.1 = 2) (h : tq_g τ 0 6 s s') (hp : p < q) (hq : q < 6) (h1 : ∀ f, f < 6 → τ f = 1 → f = p ∨ f = q) (k : s.2.2 + tq_h s' + 4 ≤ s'.2.2 + tq_h s) : τ p = 1 ∧ τ q = 1 ∧ ∃ w, p < w ∧ w < q ∧ τ w = 2 := by
  obtain ⟨t1, a1, b1⟩ := tq_split (n := p) (k := 6 - p) (by rw [show p + (6 - p) = 6 from by omega]; exact h)
  obtain ⟨t2, a2, b2⟩ := tq_split (n := 1) (k := 5 - p) (by rw [show 1 + (5 - p) = 6 - p from by omega]; exact b1)
  obtain ⟨t3, a3, b3⟩ := tq_split (n := q - p - 1) (k := 6 - q) (by rw [show q - p - 1 + (6 - q) = 5 - p from by omega]; exact b2)
  obtain ⟨t4, a4, b4⟩ := tq_split (n := 1) (k := 5 - q) (by rw [show 1 + (5 - q) = 6 - q from by omega]; exact b3)
  have u1 := (tq_up hu a1).1
  have u2 := (tq_up u1 a2).1
  have u3 := (tq_up u2 a3).1
  have u4 := (tq_up u3 a4).1
  have n1 := tq_no1 hu a1 (fun f f1 f2 w => by rcases h1 f (by omega) w with e | e <;> omega)
  have n3 := tq_no1 u2 a3 (fun f f1 f2 w => by rcases h1 f (by omega) w with e | e <;> omega)
  have n5 := tq_no1 u4 b4 (fun f f1 f2 w => by rcases h1 f (by omega) w with e | e <;> omega)
  have c2 := tq_one a2
  have c4 := tq_one a4
  rw [show 0 + p = p from Nat.zero_add p] at c2
  rw [show 0 + p + 1 + (q - p - 1) = q from by omega] at c4
  have z1 := tq_h01 t1; have z2 := tq_h01 t2; have z3 := tq_h01 t3; have z4 := tq_h01 t4
  obtain ⟨-, -, G2, B2, g2, bb2, x2, y2⟩ := tq_up u1 a2
  obtain ⟨-, -, G4, B4, g4, bb4, x4, y4⟩ := tq_up u3 a4
  have g2' : G2 ≤ (if τ (0 + p + 0) = 1 then 1 else 0) := by
    have : tq_c 1 τ (0 + p) 1 = 0 + (if τ (0 + p + 0) = 1 then 1 else 0) := rfl
    omega
  have g4' : G4 ≤ (if τ (0 + p + 1 + (q - p - 1) + 0) = 1 then 1 else 0) := by
    have : tq_c 1 τ (0 + p + 1 + (q - p - 1)) 1 = 0 + (if τ (0 + p + 1 + (q - p - 1) + 0) = 1 then 1 else 0) := rfl
    omega
  rw [show 0 + p + 0 = p from by omega] at g2'
  rw [show 0 + p + 1 + (q - p - 1) + 0 = q from by omega] at g4'
  have tp : τ p = 1 := by
    by_cases e : τ p = 1
    · exact e
    · rw [if_neg e] at g2'
      by_cases e2 : τ q = 1
      · rw [if_pos e2] at g4'; omega
      · rw [if_neg e2] at g4'; omega
  have tq : τ q = 1 := by
    by_cases e : τ q = 1
    · exact e
    · rw [if_neg e] at g4'
      rw [if_pos tp] at g2'
      omega
  rw [if_pos tp] at g2'
  rw [if_pos tq] at g4'
  refine ⟨tp, tq, ?_⟩
  rcases Classical.em (∃ w, p < w ∧ w < q ∧ τ w = 2) with e | e
  · exact e
  · exfalso
    have n3' := tq_no2 u2 a3 (fun f f1 f2 w => e ⟨f, by omega, by omega, w⟩)
    rw [tp] at c2
    rw [tq] at c4
    have f2 : tq_h t2 = 0 := by
      unfold tq_h
      rcases c2 with ⟨w, -⟩ | ⟨-, ⟨-, w, -⟩ | ⟨-, w, -⟩⟩ | ⟨w, -⟩
      · exact absurd w (by decide)
      · rw [if_neg (by omega)]
      · rw [if_neg (by omega)]
      · exact absurd w (by decide)
    have f3 : tq_h t3 = 0 := by omega
    rcases c4 with ⟨w, -⟩ | ⟨-, ⟨w, -⟩ | ⟨-, -, -, w⟩⟩ | ⟨w, -⟩
    · exact absurd w (by decide)
    · unfold tq_h at f3
      rw [if_pos w] at f3
      exact absurd f3 (by decide)
    · omega
    · exact absurd w (by decide)
/-- two begins by letters at p, q alone: both come, between them one of a stronger one; and one ahead of both, if it held -/
theorem tq_two2 {τ : Nat → Nat} {p q : Nat} {s s' : Nat × Int × Nat} (hu : s.1 = 1 ∨ s.1 = 2) (h : tq_g τ 0 6 s s') (hp : p < q) (hq : q < 6) (h1 : ∀ f, f < 6 → τ f = 2 → f = p ∨ f = q) (k : s.2.2 + tq_h s + 4 ≤ s'.2.2 + tq_h s') : τ p = 2 ∧ τ q = 2 ∧ (∃ w, p < w ∧ w < q ∧ τ w = 1) ∧ (s.1 = 2 → ∃ w, w < p ∧ τ w = 1) := by
  obtain ⟨t1, a1, b1⟩ := tq_split (n := p) (k := 6 - p) (by rw [show p + (6 - p) = 6 from by omega]; exact h)
  obtain ⟨t2, a2, b2⟩ := tq_split (n := 1) (k := 5 - p) (by rw [show 1 + (5 - p) = 6 - p from by omega]; exact b1)
  obtain ⟨t3, a3, b3⟩ := tq_split (n := q - p - 1) (k := 6 - q) (by rw [show q - p - 1 + (6 - q) = 5 - p from by omega]; exact b2)
  obtain ⟨t4, a4, b4⟩ := tq_split (n := 1) (k := 5 - q) (by rw [show 1 + (5 - q) = 6 - q from by omega]; exact b3)
  have u1 := (tq_up hu a1).1
  have u2 := (tq_up u1 a2).1
  have u3 := (tq_up u2 a3).1
  have u4 := (tq_up u3 a4).1
  have n1 := tq_no2 hu a1 (fun f f1 f2 w => by rcases h1 f (by omega) w with e | e <;> omega)
  have n3 := tq_no2 u2 a3 (fun f f1 f2 w => by rcases h1 f (by omega) w with e | e <;> omega)
  have n5 := tq_no2 u4 b4 (fun f f1 f2 w => by rcases h1 f (by omega) w with e | e <;> omega)
  have c2 := tq_one a2
  have c4 := tq_one a4
  rw [show 0 + p = p from Nat.zero_add p] at c2
  rw [show 0 + p + 1 + (q - p - 1) = q from by omega] at c4
  have z1 := tq_h01 t1; have z2 := tq_h01 t2; have z3 := tq_h01 t3; have z4 := tq_h01 t4
  obtain ⟨-, -, G2, B2, g2, bb2, x2, y2⟩ := tq_up u1 a2
  obtain ⟨-, -, G4, B4, g4, bb4, x4, y4⟩ := tq_up u3 a4
  have g2' : B2 ≤ (if τ (0 + p + 0) = 2 then 1 else 0) := by
    have : tq_c 2 τ (0 + p) 1 = 0 + (if τ (0 + p + 0) = 2 then 1 else 0) := rfl
    omega
  have g4' : B4 ≤ (if τ (0 + p + 1 + (q - p - 1) + 0) = 2 then 1 else 0) := by
    have : tq_c 2 τ (0 + p + 1 + (q - p - 1)) 1 = 0 + (if τ (0 + p + 1 + (q - p - 1) + 0) = 2 then 1 else 0) := rfl
    omega
  rw [show 0 + p + 0 = p from by omega] at g2'
  rw [show 0 + p + 1 + (q - p - 1) + 0 = q from by omega] at g4'
  have tp : τ p = 2 := by
    by_cases e : τ p = 2
    · exact e
    · rw [if_neg e] at g2'
      by_cases e2 : τ q = 2
      · rw [if_pos e2] at g4'; omega
      · rw [if_neg e2] at g4'; omega
  have tq : τ q = 2 := by
    by_cases e : τ q = 2
    · exact e
    · rw [if_neg e] at g4'
      rw [if_pos tp] at g2'
      omega
  rw [if_pos tp] at g2'
  rw [if_pos tq] at g4'
  have two : B2 = 1 ∧ B4 = 1 := by omega
  rw [tp] at c2
  rw [tq] at c4
  have f2 : tq_h t1 = 0 ∧ tq_h t2 = 1 := by
    rcases c2 with ⟨w, -⟩ | ⟨w, -⟩ | ⟨-, ⟨c1, w⟩ | ⟨c1, c3, w⟩ | ⟨c1, c3, -, w⟩⟩
    · exact absurd w (by decide)
    · exact absurd w (by decide)
    · rw [w] at x2; omega
    · unfold tq_h; rw [if_neg (by omega), if_pos c3]; exact ⟨rfl, rfl⟩
    · omega
  have f4 : tq_h t3 = 0 := by
    rcases c4 with ⟨w, -⟩ | ⟨w, -⟩ | ⟨-, ⟨c1, w⟩ | ⟨c1, c3, w⟩ | ⟨c1, c3, -, w⟩⟩
    · exact absurd w (by decide)
    · exact absurd w (by decide)
    · rw [w] at x4; omega
    · unfold tq_h; rw [if_neg (by omega)]
    · omega
  refine ⟨tp, tq, ?_, fun hs => ?_⟩
  · rcases Classical.em (∃ w, p < w ∧ w < q ∧ τ w = 1) with e | e
    · exact e
    · exfalso
      have n3' := tq_no1 u2 a3 (fun f f1 f2 w => e ⟨f, by omega, by omega, w⟩)
      omega
  · rcases Classical.em (∃ w, w < p ∧ τ w = 1) with e | e
    · exact e
    · exfalso
      have n1' := tq_no1 hu a1 (fun f f1 f2 w => e ⟨f, by omega, w⟩)
      have : tq_h s = 1 := by unfold tq_h; rw [if_pos hs]
      omega
/-- one begin by a letter at q alone, of one that held: it comes, and ahead of it one of a stronger one -/
theorem tq_one2 {τ : Nat → Nat} {q : Nat} {s s' : Nat × Int × Nat} (hu : s.1 = 2) (h : tq_g τ 0 6 s s') (hq : q < 6) (h1 : ∀ f, f < 6 → τ f = 2 → f = q) (k : s.2.2 + tq_h s + 2 ≤ s'.2.2 + tq_h s') : τ q = 2 ∧ ∃ w, w < q ∧ τ w = 1 := by
  obtain ⟨t1, a1, b1⟩ := tq_split (n := q) (k := 6 - q) (by rw [show q + (6 - q) = 6 from by omega]; exact h)
  obtain ⟨t2, a2, b2⟩ := tq_split (n := 1) (k := 5 - q) (by rw [show 1 + (5 - q) = 6 - q from by omega]; exact b1)
  have u1 := (tq_up (Or.inr hu) a1).1
  have u2 := (tq_up u1 a2).1
  have n1 := tq_no2 (Or.inr hu) a1 (fun f f1 f2 w => by have := h1 f (by omega) w; omega)
  have n3 := tq_no2 u2 b2 (fun f f1 f2 w => by have := h1 f (by omega) w; omega)
  have c2 := tq_one a2
  rw [show 0 + q = q from Nat.zero_add q] at c2
  have tq : τ q = 2 := by
    by_cases e : τ q = 2
    · exact e
    · have n2 := tq_no2 u1 a2 (fun f f1 f2 w => by have : f = q := by omega
                                                   rw [this] at w; exact e w)
      omega
  refine ⟨tq, ?_⟩
  rcases Classical.em (∃ w, w < q ∧ τ w = 1) with e | e
  · exact e
  · exfalso
    have n1' := tq_no1 (Or.inr hu) a1 (fun f f1 f2 w => e ⟨f, by omega, w⟩)
    have hs : tq_h s = 1 := by unfold tq_h; rw [if_pos hu]
    have z1 := tq_h01 t1
    rw [tq] at c2
    rcases c2 with ⟨w, -⟩ | ⟨w, -⟩ | ⟨-, ⟨c1, w⟩ | ⟨c1, c3, w⟩ | ⟨c1, c3, -, w⟩⟩
    · exact absurd w (by decide)
    · exact absurd w (by decide)
    · rw [w] at n3; omega
    · have : tq_h t1 = 0 := by unfold tq_h; rw [if_neg (by omega)]
      omega
    · have : tq_h t1 = 0 := by unfold tq_h; rw [if_neg (by omega)]
      omega
/-- one that held and holds, without letters of weaker ones: no letter came -/
theorem tq_still {τ : Nat → Nat} {s s' : Nat × Int × Nat} (hu : s.1 = 2) (h : tq_g τ 0 6 s s') (h2 : ∀ f, f < 6 → τ f ≠ 2) (e : s'.1 = 2) : ∀ f, f < 6 → τ f ≠ 1 := by
  intro f hf w
  obtain ⟨t1, a1, b1⟩ := tq_split (n := f) (k := 6 - f) (by rw [show f + (6 - f) = 6 from by omega]; exact h)
  obtain ⟨t2, a2, b2⟩ := tq_split (n := 1) (k := 5 - f) (by rw [show 1 + (5 - f) = 6 - f from by omega]; exact b1)
  have u1 := (tq_up (Or.inr hu) a1).1
  have u2 := (tq_up u1 a2).1
  have n3 := tq_no2 u2 b2 (fun g g1 g2 => h2 g (by omega))
  have c2 := tq_one a2
  rw [show 0 + f = f from Nat.zero_add f, w] at c2
  have : tq_h t2 = 0 := by
    unfold tq_h
    rcases c2 with ⟨w, -⟩ | ⟨-, ⟨-, w, -⟩ | ⟨-, w, -⟩⟩ | ⟨w, -⟩
    · exact absurd w (by decide)
    · rw [if_neg (by omega)]
    · rw [if_neg (by omega)]
    · exact absurd w (by decide)
  have : tq_h s' = 1 := by unfold tq_h; rw [if_pos e]
  omega
