/-- a turn of six gates told by rank: moves against what they count. At most 12; 9 if one is down; 10 if it isn't perfect -/
theorem tq_turn {g : Nat → Nat} {snd : Nat → Prop} {h : Nat → Nat} {v : Nat → Int} {τ : Nat → Nat → Nat} {s s' : Nat → Nat × Int × Nat}
    (g6 : ∀ i, i < 6 → g i < 6) (gi : ∀ i j, i < 6 → j < 6 → g i = g j → i = j) (gc : ∀ f, f < 6 → ∃ i, i < 6 ∧ g i = f)
    (a : ∀ i, i < 6 → tq_s (snd (g i)) (h (g i)) (v (g i)) (s (g i))) (b : ∀ i, i < 6 → tq_g (τ (g i)) 0 6 (s (g i)) (s' (g i)))
    (t0 : ∀ i j, i < 6 → j < 6 → τ (g i) (g j) ≠ 0 → snd (g j) ∧ h (g i) ≠ 0)
    (tv : ∀ k f, τ k f ≤ 2) (t1 : ∀ i j, i < 6 → j < 6 → τ (g i) (g j) = 1 → j < i) (t2 : ∀ i j, i < 6 → j < 6 → τ (g i) (g j) = 2 → i < j)
    {V : Int} (hV : V = ((s' (g 0)).2.2 : Int) + ((s' (g 1)).2.2 : Int) + ((s' (g 2)).2.2 : Int) + ((s' (g 3)).2.2 : Int) + ((s' (g 4)).2.2 : Int) + ((s' (g 5)).2.2 : Int) - (tq_X (s' (g 0)).1 - tq_X (h (g 0))) - (tq_X (s' (g 1)).1 - tq_X (h (g 1))) - (tq_X (s' (g 2)).1 - tq_X (h (g 2))) - (tq_Y (s' (g 3)).1 (s' (g 3)).2.1 - tq_Y (h (g 3)) (v (g 3))) - (tq_Y (s' (g 4)).1 (s' (g 4)).2.1 - tq_Y (h (g 4)) (v (g 4))) - (tq_Z (s' (g 5)).1 (s' (g 5)).2.1 - tq_Z (h (g 5)) (v (g 5)))) :
    V ≤ 12 ∧ ((∃ i, i < 6 ∧ h (g i) = 0) → V ≤ 9) ∧ (V ≤ 10 ∨ ((∀ i, i < 6 → h (g i) ≠ 0) ∧ snd (g 0) ∧ snd (g 1) ∧ snd (g 4) ∧ snd (g 5) ∧ τ (g 1) (g 0) = 1 ∧
      (τ (g 2) (g 0) = 1 ∧ τ (g 2) (g 1) = 1 ∧ ∃ w, ((g 0 < w ∧ w < g 1) ∨ (g 1 < w ∧ w < g 0)) ∧ τ (g 2) w = 2) ∧
      (τ (g 3) (g 4) = 2 ∧ τ (g 3) (g 5) = 2 ∧ (∃ w, ((g 4 < w ∧ w < g 5) ∨ (g 5 < w ∧ w < g 4)) ∧ τ (g 3) w = 1) ∧ (snd (g 3) → ∃ w, w < g 4 ∧ w < g 5 ∧ τ (g 3) w = 1)) ∧
      (τ (g 4) (g 5) = 2 ∧ ∃ w, w < g 5 ∧ τ (g 4) w = 1) ∧ (∀ f, f < 6 → τ (g 5) f = 0))) := by
  have T1 : ∀ i, i < 6 → ∀ f, f < 6 → τ (g i) f = 1 → ∃ j, j < i ∧ f = g j ∧ snd f := fun i hi f hf w => by
    obtain ⟨j, hj, e⟩ := gc f hf
    subst e
    exact ⟨j, t1 i j hi hj w, rfl, (t0 i j hi hj (by omega)).1⟩
  have T2 : ∀ i, i < 6 → ∀ f, f < 6 → τ (g i) f = 2 → ∃ j, i < j ∧ j < 6 ∧ f = g j ∧ snd f := fun i hi f hf w => by
    obtain ⟨j, hj, e⟩ := gc f hf
    subst e
    exact ⟨j, t2 i j hi hj w, hj, rfl, (t0 i j hi hj (by omega)).1⟩
  -- up while it reads
  have up : ∀ i, i < 6 → h (g i) ≠ 0 → (s (g i)).1 = 1 ∨ (s (g i)).1 = 2 := fun i hi w => by
    rcases a i hi with ⟨e, -⟩ | ⟨-, e, -⟩ | ⟨-, -, e, -⟩ | ⟨-, -, -, e, -⟩
    · exact absurd e w
    all_goals omega
  have sh : ∀ i, i < 6 → snd (g i) → h (g i) ≠ 0 ∧ (s (g i)).1 = 2 := fun i hi w => by
    rcases a i hi with ⟨-, e, -⟩ | ⟨e1, e, -⟩ | ⟨e1, -, e, -⟩ | ⟨-, -, e, -⟩
    · exact absurd w e
    · exact ⟨by omega, e⟩
    · exact ⟨by omega, e⟩
    · exact absurd w e
  obtain ⟨G0, v0, c0, d0, -⟩ := tq_vX (a 0 (by decide)) (b 0 (by decide))
  obtain ⟨G1, v1, c1, d1, m1⟩ := tq_vX (a 1 (by decide)) (b 1 (by decide))
  obtain ⟨G2, v2, c2, d2, m2⟩ := tq_vX (a 2 (by decide)) (b 2 (by decide))
  have y3 := tq_vY (a 3 (by decide)) (b 3 (by decide))
  have y4 := tq_vY (a 4 (by decide)) (b 4 (by decide))
  obtain ⟨z1, z2⟩ := tq_vZ (a 5 (by decide)) (b 5 (by decide)) (fun f hf w => by obtain ⟨j, q, q2, -⟩ := T2 5 (by decide) f hf w; omega)
  -- counts
  have k0 : G0 = 0 := by
    rw [tq_c0 (fun f _ hf w => by obtain ⟨j, q, -⟩ := T1 0 (by decide) f (by omega) w; omega)] at c0
    omega
  have k1 : G1 ≤ 1 := Nat.le_trans c1 (tq_c1 (p := g 0) (fun f _ hf w => by
    obtain ⟨j, q, e, -⟩ := T1 1 (by decide) f (by omega) w
    rw [e, show j = 0 from by omega]))
  have n1 : ¬ snd (g 0) → G1 = 0 := fun ns => by
    rw [tq_c0 (fun f _ hf w => by
      obtain ⟨j, q, e, sn⟩ := T1 1 (by decide) f (by omega) w
      rw [e, show j = 0 from by omega] at sn
      exact ns sn)] at c1
    omega
  have k2 : G2 ≤ 2 := Nat.le_trans c2 (tq_c2 (p := g 0) (q := g 1) (fun f _ hf w => by
    obtain ⟨j, q, e, -⟩ := T1 2 (by decide) f (by omega) w
    rcases (show j = 0 ∨ j = 1 by omega) with x | x <;> subst x
    · exact Or.inl e
    · exact Or.inr e))
  have n2 : ¬ snd (g 0) ∨ ¬ snd (g 1) → G2 ≤ 1 := fun ns => by
    rcases ns with ns | ns
    · exact Nat.le_trans c2 (tq_c1 (p := g 1) (fun f _ hf w => by
        obtain ⟨j, q, e, sn⟩ := T1 2 (by decide) f (by omega) w
        rcases (show j = 0 ∨ j = 1 by omega) with x | x <;> subst x
        · exact absurd (e ▸ sn) ns
        · exact e))
    · exact Nat.le_trans c2 (tq_c1 (p := g 0) (fun f _ hf w => by
        obtain ⟨j, q, e, sn⟩ := T1 2 (by decide) f (by omega) w
        rcases (show j = 0 ∨ j = 1 by omega) with x | x <;> subst x
        · exact e
        · exact absurd (e ▸ sn) ns))
  have n22 : ¬ snd (g 0) → ¬ snd (g 1) → G2 = 0 := fun ns ns' => by
    rw [tq_c0 (fun f _ hf w => by
      obtain ⟨j, q, e, sn⟩ := T1 2 (by decide) f (by omega) w
      rcases (show j = 0 ∨ j = 1 by omega) with x | x <;> subst x
      · exact ns (e ▸ sn)
      · exact ns' (e ▸ sn))] at c2
    omega
  -- the three strongest
  have X6 : G1 + G2 ≤ 3 := by omega
  have hd0 : h (g 0) = 0 → ¬ snd (g 0) := fun e w => (sh 0 (by decide) w).1 e
  have hd1 : h (g 1) = 0 → ¬ snd (g 1) := fun e w => (sh 1 (by decide) w).1 e
  have hd4 : h (g 4) = 0 → ¬ snd (g 4) := fun e w => (sh 4 (by decide) w).1 e
  have hd5 : h (g 5) = 0 → ¬ snd (g 5) := fun e w => (sh 5 (by decide) w).1 e
  -- the others: what the third may begin by letters
  have B3 : ∀ {B : Nat}, B ≤ tq_c 2 (τ (g 3)) 0 6 → B ≤ 2 ∧ (¬ snd (g 4) ∨ ¬ snd (g 5) → B ≤ 1) ∧ (¬ snd (g 4) → ¬ snd (g 5) → B = 0) := fun {B} c3 => by
    have T := fun f (hf : f < 6) (w : τ (g 3) f = 2) => T2 3 (by decide) f hf w
    refine ⟨Nat.le_trans c3 (tq_c2 (p := g 4) (q := g 5) (fun f _ hf w => ?_)), fun ns => ?_, fun ns ns' => ?_⟩
    · obtain ⟨j, q, q6, e, -⟩ := T f (by omega) w
      rcases (show j = 4 ∨ j = 5 by omega) with x | x <;> subst x
      · exact Or.inl e
      · exact Or.inr e
    · rcases ns with ns | ns
      · exact Nat.le_trans c3 (tq_c1 (p := g 5) (fun f _ hf w => by
          obtain ⟨j, q, q6, e, sn⟩ := T f (by omega) w
          rcases (show j = 4 ∨ j = 5 by omega) with x | x <;> subst x
          · exact absurd (e ▸ sn) ns
          · exact e))
      · exact Nat.le_trans c3 (tq_c1 (p := g 4) (fun f _ hf w => by
          obtain ⟨j, q, q6, e, sn⟩ := T f (by omega) w
          rcases (show j = 4 ∨ j = 5 by omega) with x | x <;> subst x
          · exact e
          · exact absurd (e ▸ sn) ns))
    · rw [tq_c0 (fun f _ hf w => by
        obtain ⟨j, q, q6, e, sn⟩ := T f (by omega) w
        rcases (show j = 4 ∨ j = 5 by omega) with x | x <;> subst x
        · exact ns (e ▸ sn)
        · exact ns' (e ▸ sn))] at c3
      omega
  have B4 : ∀ {B : Nat}, B ≤ tq_c 2 (τ (g 4)) 0 6 → B ≤ 1 ∧ (¬ snd (g 5) → B = 0) := fun {B} c4 => by
    have T := fun f (hf : f < 6) (w : τ (g 4) f = 2) => T2 4 (by decide) f hf w
    refine ⟨Nat.le_trans c4 (tq_c1 (p := g 5) (fun f _ hf w => ?_)), fun ns => ?_⟩
    · obtain ⟨j, q, q6, e, -⟩ := T f (by omega) w
      rw [e, show j = 5 from by omega]
    · rw [tq_c0 (fun f _ hf w => by
        obtain ⟨j, q, q6, e, sn⟩ := T f (by omega) w
        rw [e, show j = 5 from by omega] at sn
        exact ns sn)] at c4
      omega
  generalize ex0 : ((s' (g 0)).2.2 : Int) - (tq_X (s' (g 0)).1 - tq_X (h (g 0))) = x0 at v0
  generalize ex1 : ((s' (g 1)).2.2 : Int) - (tq_X (s' (g 1)).1 - tq_X (h (g 1))) = x1 at v1
  generalize ex2 : ((s' (g 2)).2.2 : Int) - (tq_X (s' (g 2)).1 - tq_X (h (g 2))) = x2 at v2
  generalize ex3 : ((s' (g 3)).2.2 : Int) - (tq_Y (s' (g 3)).1 (s' (g 3)).2.1 - tq_Y (h (g 3)) (v (g 3))) = x3 at y3
  generalize ex4 : ((s' (g 4)).2.2 : Int) - (tq_Y (s' (g 4)).1 (s' (g 4)).2.1 - tq_Y (h (g 4)) (v (g 4))) = x4 at y4
  generalize ex5 : ((s' (g 5)).2.2 : Int) - (tq_Z (s' (g 5)).1 (s' (g 5)).2.1 - tq_Z (h (g 5)) (v (g 5))) = x5 at z1 z2
  have eV : V = x0 + x1 + x2 + x3 + x4 + x5 := by omega
  clear hV
  have Y6 : x3 + x4 + x5 ≤ 6 ∧ (5 ≤ x3 + x4 + x5 → snd (g 4) ∧ snd (g 5) ∧ x3 ≤ 4 ∧ x4 ≤ 2 ∧ ∃ B C : Nat, B = 2 ∧ C = 1 ∧ B ≤ tq_c 2 (τ (g 3)) 0 6 ∧ C ≤ tq_c 2 (τ (g 4)) 0 6 ∧ (h (g 3) = 0 → B = 0) ∧ (h (g 4) = 0 → C = 0) ∧ ((s (g 3)).1 = 1 ∨ (s (g 3)).1 = 2 → (s (g 3)).2.2 + tq_h (s (g 3)) + 2 * B = (s' (g 3)).2.2 + tq_h (s' (g 3))) ∧ ((s (g 4)).1 = 1 ∨ (s (g 4)).1 = 2 → (s (g 4)).2.2 + tq_h (s (g 4)) + 2 * C = (s' (g 4)).2.2 + tq_h (s' (g 4)))) := by
    rcases y3 with ⟨B, y3, b3, e3, l3⟩ | ⟨y3, n3, o3⟩
    · obtain ⟨p1, p2, p3⟩ := B3 b3
      rcases y4 with ⟨C, y4, b4, e4, l4⟩ | ⟨y4, n4, o4⟩
      · obtain ⟨q1, q2⟩ := B4 b4
        rcases Classical.em (snd (g 5)) with c5 | c5
        · rcases Classical.em (snd (g 4)) with c4 | c4
          · have z0 : x5 ≤ 0 := by rcases z1 with z | ⟨-, z, -⟩
                                   · exact z
                                   · exact absurd c5 z
            refine ⟨by omega, fun w => ⟨c4, c5, by omega, by omega, B, C, by omega, by omega, b3, b4, e3, e4, l3, l4⟩⟩
          · have z0 : x5 ≤ 0 := by rcases z1 with z | ⟨-, z, -⟩
                                   · exact z
                                   · exact absurd c5 z
            have := p2 (Or.inl c4)
            exact ⟨by omega, fun w => by omega⟩
        · have z0 : x5 ≤ 2 := by rcases z1 with z | ⟨z, -, -⟩ <;> omega
          have := p2 (Or.inr c5)
          have := q2 c5
          exact ⟨by omega, fun w => by omega⟩
      · have := p2 (Or.inl n4)
        have z0 : x5 ≤ 2 := by rcases z1 with z | ⟨z, -, -⟩ <;> omega
        rcases Classical.em (snd (g 5)) with c5 | c5
        · have z0 : x5 ≤ 0 := by rcases z1 with z | ⟨-, z, -⟩
                                 · exact z
                                 · exact absurd c5 z
          exact ⟨by omega, fun w => by omega⟩
        · have := p3 n4 c5
          exact ⟨by omega, fun w => by omega⟩
    · rcases y4 with ⟨C, y4, b4, e4, l4⟩ | ⟨y4, n4, o4⟩
      · obtain ⟨q1, q2⟩ := B4 b4
        rcases Classical.em (snd (g 5)) with c5 | c5
        · have z0 : x5 ≤ 0 := by rcases z1 with z | ⟨-, z, -⟩
                                 · exact z
                                 · exact absurd c5 z
          exact ⟨by omega, fun w => by omega⟩
        · have := q2 c5
          have z0 : x5 ≤ 2 := by rcases z1 with z | ⟨z, -, -⟩ <;> omega
          exact ⟨by omega, fun w => by omega⟩
      · have z0 : x5 ≤ 2 := by rcases z1 with z | ⟨z, -, -⟩ <;> omega
        exact ⟨by omega, fun w => by omega⟩
  refine ⟨by omega, fun ⟨i, hi, e⟩ => ?_, ?_⟩
  · have z3 : ¬ snd (g 5) ∨ x5 ≤ 0 := by
      rcases z1 with z | ⟨-, z, -⟩
      · exact Or.inr z
      · exact Or.inl z
    have z2' : x5 ≤ 2 := by rcases z1 with z | ⟨z, -, -⟩ <;> omega
    rcases (show i = 0 ∨ i = 1 ∨ i = 2 ∨ i = 3 ∨ i = 4 ∨ i = 5 by omega) with x | x | x | x | x | x <;> subst x
    · have := n1 (hd0 e)
      have := n2 (Or.inl (hd0 e))
      omega
    · have := d1 e
      have := n2 (Or.inr (hd1 e))
      omega
    · have := d2 e
      omega
    · have x30 : x3 ≤ 0 := by
        rcases y3 with ⟨B, y3, -, e3, -⟩ | ⟨-, -, o3⟩
        · have := e3 e
          omega
        · omega
      rcases y4 with ⟨C, y4, b4, e4, -⟩ | ⟨y4, n4, o4⟩
      · obtain ⟨q1, q2⟩ := B4 b4
        rcases z3 with z | z
        · have := q2 z
          omega
        · omega
      · omega
    · have x40 : x4 ≤ 0 := by
        rcases y4 with ⟨B, y4, -, e4, -⟩ | ⟨-, -, o4⟩
        · have := e4 e
          omega
        · omega
      rcases y3 with ⟨B, y3, b3, e3, -⟩ | ⟨y3, n3, o3⟩
      · obtain ⟨p1, p2, p3⟩ := B3 b3
        have := p2 (Or.inl (hd4 e))
        rcases z3 with z | z
        · have := p3 (hd4 e) z
          omega
        · omega
      · omega
    · have x50 : x5 ≤ 0 := by
        rcases z1 with z | ⟨-, -, o⟩
        · exact z
        · omega
      rcases y4 with ⟨C, y4, b4, e4, -⟩ | ⟨y4, n4, o4⟩
      · obtain ⟨q1, q2⟩ := B4 b4
        have := q2 (hd5 e)
        rcases y3 with ⟨B, y3, b3, e3, -⟩ | ⟨y3, n3, o3⟩
        · obtain ⟨p1, p2, p3⟩ := B3 b3
          have := p2 (Or.inr (hd5 e))
          omega
        · omega
      · rcases y3 with ⟨B, y3, b3, e3, -⟩ | ⟨y3, n3, o3⟩
        · obtain ⟨p1, p2, p3⟩ := B3 b3
          have := p2 (Or.inr (hd5 e))
          omega
        · omega
  · by_cases big : V ≤ 10
    · exact Or.inl big
    · refine Or.inr ?_
      have g1 : G1 = 1 := by omega
      have g2 : G2 = 2 := by omega
      obtain ⟨s4, s5, x34, x42, B, C, eB, eC, b3, b4, e3, e4, l3, l4⟩ := Y6.2 (by omega)
      have s0 : snd (g 0) := by
        rcases Classical.em (snd (g 0)) with c | c
        · exact c
        · have := n1 c
          omega
      have s1 : snd (g 1) := by
        rcases Classical.em (snd (g 1)) with c | c
        · exact c
        · have := n2 (Or.inr c)
          omega
      have h0 := (sh 0 (by decide) s0)
      have h1 := (sh 1 (by decide) s1)
      have h4 := (sh 4 (by decide) s4)
      have h5 := (sh 5 (by decide) s5)
      have h2 : h (g 2) ≠ 0 := fun w => by have := d2 w; omega
      have h3 : h (g 3) ≠ 0 := fun w => by have := e3 w; omega
      have hall : ∀ i, i < 6 → h (g i) ≠ 0 := fun i hi => by
        rcases (show i = 0 ∨ i = 1 ∨ i = 2 ∨ i = 3 ∨ i = 4 ∨ i = 5 by omega) with x | x | x | x | x | x <;> subst x
        · exact h0.1
        · exact h1.1
        · exact h2
        · exact h3
        · exact h4.1
        · exact h5.1
      have t10 : τ (g 1) (g 0) = 1 := by
        rcases Classical.em (τ (g 1) (g 0) = 1) with c | c
        · exact c
        · exfalso
          rw [tq_c0 (fun f _ hf w => by
            obtain ⟨j, q, e, -⟩ := T1 1 (by decide) f (by omega) w
            rw [e, show j = 0 from by omega] at w
            exact c w)] at c1
          omega
      have r2 : τ (g 2) (g 0) = 1 ∧ τ (g 2) (g 1) = 1 ∧ ∃ w, ((g 0 < w ∧ w < g 1) ∨ (g 1 < w ∧ w < g 0)) ∧ τ (g 2) w = 2 := by
        have u := up 2 (by decide) h2
        have m := m2 u
        have ne : g 0 ≠ g 1 := fun w => by have := gi 0 1 (by decide) (by decide) w; omega
        have l0 := g6 0 (by decide)
        have l1 := g6 1 (by decide)
        have T := fun f (hf : f < 6) (w : τ (g 2) f = 1) => T1 2 (by decide) f hf w
        by_cases c : g 0 < g 1
        · obtain ⟨a1, a2, w, w1, w2, w3⟩ := tq_two1 u (b 2 (by decide)) c l1 (fun f hf w => by
            obtain ⟨j, q, e, -⟩ := T f hf w
            rcases (show j = 0 ∨ j = 1 by omega) with x | x <;> subst x
            · exact Or.inl e
            · exact Or.inr e) (by omega)
          exact ⟨a1, a2, w, Or.inl ⟨w1, w2⟩, w3⟩
        · obtain ⟨a1, a2, w, w1, w2, w3⟩ := tq_two1 (p := g 1) (q := g 0) u (b 2 (by decide)) (by omega) l0 (fun f hf w => by
            obtain ⟨j, q, e, -⟩ := T f hf w
            rcases (show j = 0 ∨ j = 1 by omega) with x | x <;> subst x
            · exact Or.inr e
            · exact Or.inl e) (by omega)
          exact ⟨a2, a1, w, Or.inr ⟨w1, w2⟩, w3⟩
      have r3 : τ (g 3) (g 4) = 2 ∧ τ (g 3) (g 5) = 2 ∧ (∃ w, ((g 4 < w ∧ w < g 5) ∨ (g 5 < w ∧ w < g 4)) ∧ τ (g 3) w = 1) ∧ (snd (g 3) → ∃ w, w < g 4 ∧ w < g 5 ∧ τ (g 3) w = 1) := by
        have u := up 3 (by decide) h3
        have m := l3 u
        have ne : g 4 ≠ g 5 := fun w => by have := gi 4 5 (by decide) (by decide) w; omega
        have l4' := g6 4 (by decide)
        have l5' := g6 5 (by decide)
        have T := fun f (hf : f < 6) (w : τ (g 3) f = 2) => T2 3 (by decide) f hf w
        by_cases c : g 4 < g 5
        · obtain ⟨a1, a2, ⟨w, w1, w2, w3⟩, a4⟩ := tq_two2 u (b 3 (by decide)) c l5' (fun f hf w => by
            obtain ⟨j, q, q6, e, -⟩ := T f hf w
            rcases (show j = 4 ∨ j = 5 by omega) with x | x <;> subst x
            · exact Or.inl e
            · exact Or.inr e) (by omega)
          refine ⟨a1, a2, ⟨w, Or.inl ⟨w1, w2⟩, w3⟩, fun sn => ?_⟩
          obtain ⟨w, w1, w2⟩ := a4 (sh 3 (by decide) sn).2
          exact ⟨w, w1, by omega, w2⟩
        · obtain ⟨a1, a2, ⟨w, w1, w2, w3⟩, a4⟩ := tq_two2 (p := g 5) (q := g 4) u (b 3 (by decide)) (by omega) l4' (fun f hf w => by
            obtain ⟨j, q, q6, e, -⟩ := T f hf w
            rcases (show j = 4 ∨ j = 5 by omega) with x | x <;> subst x
            · exact Or.inr e
            · exact Or.inl e) (by omega)
          refine ⟨a2, a1, ⟨w, Or.inr ⟨w1, w2⟩, w3⟩, fun sn => ?_⟩
          obtain ⟨w, w1, w2⟩ := a4 (sh 3 (by decide) sn).2
          exact ⟨w, by omega, w1, w2⟩
      have r4 := tq_one2 h4.2 (b 4 (by decide)) (g6 5 (by decide)) (fun f hf w => by
        obtain ⟨j, q, q6, e, -⟩ := T2 4 (by decide) f hf w
        rw [e, show j = 5 from by omega]) (by have := l4 (Or.inr h4.2); omega)
      have z5 : (s' (g 5)).1 = 2 := by
        rcases Classical.em ((s' (g 5)).1 = 2) with c | c
        · exact c
        · have := z2 h5.2 c
          omega
      have st := tq_still h5.2 (b 5 (by decide)) (fun f hf w => by obtain ⟨j, q, q2, -⟩ := T2 5 (by decide) f hf w; omega) z5
      refine ⟨hall, s0, s1, s4, s5, t10, r2, r3, r4, fun f hf => ?_⟩
      have := st f hf
      have := tv (g 5) f
      have : τ (g 5) f ≠ 2 := fun w => by obtain ⟨j, q, q2, -⟩ := T2 5 (by decide) f hf w; omega
      omega
