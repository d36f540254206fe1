/-! ticks in which nothing happens: the class passes them at once -/
theorem cQ_l91 {s g : Nat} {A : Int32} {μ : gM} {K : Int32 → Int32 → gM → Option Int32} (hg : g < 5) : ∀ (m j : Nat) (y2 : Int32), j ≤ 6 → 6 < j + m → ∃ y, fX10_quietTicks_l91 s K m y2 (nI g) A (nI j) μ = K y (nI (g + 1)) μ ∧ y.toInt ≤ y2.toInt ∧ ∀ i, j ≤ i → i < 6 → bt A i = true → y.toInt ≤ (μ (s + 12) (6 * g + i)).toInt := by
  intro m
  induction m with
  | zero => intro j y2 h1 h2; exact absurd h2 (by omega)
  | succ m ih =>
    intro j y2 h1 h2
    rw [fX10_quietTicks_l91]
    by_cases c : j = 6
    · rw [if_pos ((le6 (by omega)).mpr (by omega)), zLt_eq, show nI g + (1 : Int32) = nI (g + 1) from nI_1 g]
      exact ⟨y2, rfl, Int.le_refl _, fun i h1 h2 => absurd h2 (by omega)⟩
    · have j6 : j < 6 := by omega
      rw [if_neg (fun w => c (by have := (le6 (by omega)).mp w; omega)), o6f hg j6]
      unfold zCk
      rw [if_pos (gI (by omega) (by decide)), nI_clamp (by omega), zLt_eq, zLt_eq, zLt_eq, show nI j + (1 : Int32) = nI (j + 1) from nI_1 j]
      by_cases cb : bt A j = true
      · rw [if_pos ((bit1_iff (by omega)).mpr cb)]
        obtain ⟨y, e, q1, q2⟩ := ih (j + 1) (zMn y2 (μ (s + 12) (6 * g + j))) (by omega) (by omega)
        have mn := iMn y2 (μ (s + 12) (6 * g + j))
        refine ⟨y, e, by omega, fun i h1 h2 hb => ?_⟩
        by_cases ei : i = j
        · subst ei; omega
        · exact q2 i (by omega) h2 hb
      · rw [if_neg (fun w => cb ((bit1_iff (by omega)).mp w))]
        obtain ⟨y, e, q1, q2⟩ := ih (j + 1) y2 (by omega) (by omega)
        refine ⟨y, e, q1, fun i h1 h2 hb => ?_⟩
        by_cases ei : i = j
        · subst ei; exact absurd hb cb
        · exact q2 i (by omega) h2 hb
/-- every clock of those that are up, in groups from one on up to the last that is run -/
def CLK (s g hi : Nat) (q : Int) (μ : gM) : Prop := ∀ g' i, g ≤ g' → g' < hi → i < 6 → bt (μ 11 g' &&& μ s 1) i = true → q ≤ (μ (s + 12) (6 * g' + i)).toInt
theorem cQ_l57 {s hi : Nat} {μ : gM} (h5 : hi ≤ 5) (hl : (μ (s + 14) 3).toInt = (hi : Int) - 1) : ∀ (m g : Nat) (y2 : Int32), g ≤ 5 → 5 < g + m → ∃ q, fX10_quietTicks_l57 s m y2 (nI g) μ = some q ∧ q.toInt ≤ y2.toInt ∧ (0 < q.toInt → CLK s g hi q.toInt μ) := by
  intro m
  induction m with
  | zero => intro g y2 h1 h2; exact absurd h2 (by omega)
  | succ m ih =>
    intro g y2 h1 h2
    have tg : (nI g).toInt = g := tN (by omega)
    rw [fX10_quietTicks_l57]
    by_cases c : hi ≤ g
    · rw [if_pos (Int32.lt_iff_toInt_lt.mpr (by omega))]
      exact ⟨y2, rfl, Int.le_refl _, fun _ g' i h1 h2 => absurd h2 (by omega)⟩
    · rw [if_neg (fun w => by have := Int32.lt_iff_toInt_lt.mp w; omega)]
      have z : (0 : Int32).toInt = 0 := rfl
      by_cases c0 : y2 ≤ 0
      · rw [if_pos c0]
        exact ⟨y2, rfl, Int.le_refl _, fun w => absurd w (by have := Int32.le_iff_toInt_le.mp c0; omega)⟩
      · rw [if_neg c0]
        unfold zCk
        rw [if_pos (gI (by omega) (by decide)), nI_clamp (by omega), zLt_eq, z32]
        obtain ⟨y, e, q1, q2⟩ := cQ_l91 (s := s) (A := μ 11 g &&& μ s 1) (μ := μ) (K := fX10_quietTicks_l57 s m) (show g < 5 by omega) 100000 0 y2 (by decide) (by decide)
        rw [e]
        obtain ⟨q, e2, q3, q4⟩ := ih (g + 1) y (by omega) (by omega)
        refine ⟨q, e2, by omega, fun w g' i h1 h2 hi hb => ?_⟩
        by_cases eg : g' = g
        · subst eg
          have := q2 i (Nat.zero_le _) hi hb
          omega
        · exact q4 w g' i (by omega) h2 hi hb
/-- for how long nothing happens -/
theorem cQuiet {s n nx lo hi : Nat} {most : Int32} {μ : gM} (h5 : hi ≤ 5) (hlo : lo ≤ 5) (h2 : μ (s + 14) 2 = nI lo) (hl : (μ (s + 14) 3).toInt = (hi : Int) - 1) (hn : n ≤ 20) (hx : nx ≤ n) (e1 : μ (s + 1) 0 = nI n) (e8 : μ s 8 = nI nx) : ∃ q, fX10_quietTicks s most μ = some q ∧ q.toInt ≤ most.toInt ∧ (nx < n → q.toInt ≤ (μ (s + 2) (5 * nx) - μ s 0).toInt) ∧ (0 < q.toInt → CLK s lo hi q.toInt μ) := by
  unfold fX10_quietTicks
  rw [e1, e8, h2]
  by_cases c : n ≤ nx
  · rw [if_pos ((nIle (by omega) (by omega)).mpr c), zLt_eq]
    obtain ⟨q, e, q1, q2⟩ := cQ_l57 h5 hl 100000 lo most hlo (by omega)
    exact ⟨q, e, q1, fun w => absurd w (by omega), q2⟩
  · have ea : fX5_at (s + 1) (nI nx) μ = some (μ (s + 2) (5 * nx)) := by
      unfold fX5_at zCk
      rw [show nI nx * (5 : Int32) = nI (5 * nx) by rw [show (5 : Int32) = nI 5 from rfl, pk_mul, Nat.mul_comm], if_pos (gI (by omega) (by decide)), nI_clamp (by omega)]
    rw [if_neg (fun w => c ((nIle (by omega) (by omega)).mp w)), ea, zBd_some, zLt_eq, zLt_eq]
    obtain ⟨q, e, q1, q2⟩ := cQ_l57 h5 hl 100000 lo (zMn most (μ (s + 2) (5 * nx) - μ s 0)) hlo (by omega)
    have mn := iMn most (μ (s + 2) (5 * nx) - μ s 0)
    exact ⟨q, e, by omega, fun _ => by omega, q2⟩
/-! clocks of one group, n less -/
theorem cWindX_l {s g : Nat} {n A : Int32} (hg : g < 5) : ∀ (m k : Nat) (μ : gM), k ≤ 6 → 6 < k + m → ∃ μ', fX10_wind_l21 s m (nI g) n A (nI k) μ = some μ' ∧ ∀ a i, μ' a i = if a = s + 12 ∧ 6 * g + k ≤ i ∧ i < 6 * g + 6 ∧ bt A (i - 6 * g) = true then μ a i - n else μ a i := by
  intro m
  induction m with
  | zero => intro k μ h1 h2; exact absurd h2 (by omega)
  | succ m ih =>
    intro k μ h1 h2
    rw [fX10_wind_l21]
    by_cases c : k = 6
    · rw [if_pos ((le6 (by omega)).mpr (by omega))]
      exact ⟨μ, rfl, fun a i => by rw [if_neg (by omega)]⟩
    · have k6 : k < 6 := by omega
      rw [if_neg (fun w => c (by have := (le6 (by omega)).mp w; omega)), zLt_eq, o6f hg k6]
      unfold zCk
      rw [if_pos (gI (by omega) (by decide)), if_pos (gI (by omega) (by decide)), nI_clamp (by omega), zLt_eq, zLt_eq, zLt_eq, show nI k + (1 : Int32) = nI (k + 1) from nI_1 k]
      by_cases cb : bt A k = true
      · rw [if_pos ((bit1_iff (by omega)).mpr cb)]
        obtain ⟨μ', e, q⟩ := ih (k + 1) (gUp μ (s + 12) (6 * g + k) (μ (s + 12) (6 * g + k) - n)) (by omega) (by omega)
        refine ⟨μ', e, fun a i => ?_⟩
        rw [q a i, zUp_at]
        by_cases ea : a = s + 12
        · subst ea
          rw [if_pos rfl]
          by_cases ei : i = 6 * g + k
          · subst ei
            rw [if_neg (by omega), if_pos rfl, if_pos ⟨rfl, by omega, by omega, by rw [show 6 * g + k - 6 * g = k by omega]; exact cb⟩]
          · rw [if_neg ei]
            by_cases c2 : 6 * g + (k + 1) ≤ i ∧ i < 6 * g + 6 ∧ bt A (i - 6 * g) = true
            · rw [if_pos ⟨rfl, c2⟩, if_pos ⟨rfl, by omega, c2.2⟩]
            · rw [if_neg (fun w => c2 w.2), if_neg (fun w => c2 ⟨by have := w.2.1; omega, w.2.2⟩)]
        · rw [if_neg ea, if_neg (fun w => ea w.1), if_neg (fun w => ea w.1)]
      · rw [if_neg (fun w => cb ((bit1_iff (by omega)).mp w))]
        obtain ⟨μ', e, q⟩ := ih (k + 1) μ (by omega) (by omega)
        refine ⟨μ', e, fun a i => ?_⟩
        rw [q a i]
        by_cases c2 : a = s + 12 ∧ 6 * g + (k + 1) ≤ i ∧ i < 6 * g + 6 ∧ bt A (i - 6 * g) = true
        · rw [if_pos c2, if_pos ⟨c2.1, by omega, c2.2.2⟩]
        · rw [if_neg c2, if_neg (fun w => c2 ⟨w.1, by
            have := w.2.1
            by_cases ei : i = 6 * g + k
            · have := w.2.2.2
              rw [ei, show 6 * g + k - 6 * g = k by omega] at this
              exact absurd this cb
            · omega, w.2.2⟩)]
theorem cWindX {s g : Nat} {n : Int32} {μ : gM} (hg : g < 5) : ∃ μ', fX10_wind s (nI g) n μ = some μ' ∧ ∀ a i, μ' a i = if a = s + 12 ∧ 6 * g ≤ i ∧ i < 6 * g + 6 ∧ bt (μ 11 g &&& μ s 1) (i - 6 * g) = true then μ a i - n else μ a i := by
  obtain ⟨μ', e, q⟩ := cWindX_l (s := s) (n := n) (A := μ 11 g &&& μ s 1) hg 100000 0 μ (by decide) (by decide)
  exact ⟨μ', by rw [cWindE hg]; exact e, q⟩
/-- where so many ticks have gone by in groups lo up to hi -/
def pq (s lo hi : Nat) (n : Int32) (μ : gM) : gM := fun a i =>
  if a = s + 12 then (if lo ≤ i / 6 ∧ i / 6 < hi ∧ bt (μ 11 (i / 6) &&& μ s 1) (i % 6) = true then μ a i - n else μ a i)
  else if a = s + 6 then (if lo ≤ i ∧ i < hi then μ a i + inc (orp (μ 11 i) (μ s 1) (μ (s + 5) i)) n else μ a i)
  else if a = s + 7 then (if lo ≤ i ∧ i < hi then μ a i + inc (dbl (μ s 3) (μ (s + 5) i)) n else μ a i)
  else μ a i
theorem pq_f {s lo hi : Nat} {n : Int32} {μ : gM} {a : Nat} (h1 : a ≠ s + 12) (h2 : a ≠ s + 6) (h3 : a ≠ s + 7) : pq s lo hi n μ a = μ a := by
  funext i
  unfold pq
  rw [if_neg h1, if_neg h2, if_neg h3]
/-- one group's clocks and counts -/
theorem cWT {s g hi : Nat} {n : Int32} {μ : gM} (hg : g < 5) (hs : 34 ≤ s) (gh : g < hi) (b : 0 ≤ (μ (s + 5) g).toInt ∧ (μ (s + 5) g).toInt ≤ 63) : ∃ μ1 μ2, fX10_wind s (nI g) n μ = some μ1 ∧ fX10_tally s (nI g) n μ1 = some μ2 ∧ (∀ a, a ≠ s + 12 → μ1 a = μ a) ∧ μ2 = pq s g (g + 1) n μ := by
  obtain ⟨μ1, e1, q1⟩ := cWindX (s := s) (n := n) (μ := μ) hg
  have f1 : ∀ a, a ≠ s + 12 → μ1 a = μ a := fun a ha => by funext i; rw [q1 a i, if_neg (fun w => ha w.1)]
  obtain ⟨μ2, e2, t0, t1, t6, t7⟩ := cTally (s := s) (n := n) (μ := μ1) hg (by rw [f1 _ (by omega)]; exact b)
  refine ⟨μ1, μ2, e1, e2, f1, ?_⟩
  rw [f1 11 (by omega), f1 s (by omega), f1 (s + 5) (by omega), f1 (s + 6) (by omega)] at t6
  rw [f1 s (by omega), f1 (s + 5) (by omega), f1 (s + 7) (by omega)] at t7
  funext a i
  unfold pq
  by_cases c12 : a = s + 12
  · subst c12
    rw [if_pos rfl, t0 _ (by omega) (by omega), q1]
    by_cases c : g ≤ i / 6 ∧ i / 6 < g + 1 ∧ bt (μ 11 (i / 6) &&& μ s 1) (i % 6) = true
    · have ei : i / 6 = g := by omega
      rw [if_pos c, if_pos ⟨rfl, by omega, by omega, by rw [← ei, show i - 6 * (i / 6) = i % 6 by omega]; exact c.2.2⟩]
    · rw [if_neg c, if_neg (fun w => c (by
        have ei : i / 6 = g := by omega
        have e2 : i % 6 = i - 6 * g := by omega
        rw [ei, e2]
        exact ⟨Nat.le_refl _, by omega, w.2.2.2⟩))]
  · rw [if_neg c12]
    by_cases c6 : a = s + 6
    · subst c6
      rw [if_pos rfl]
      by_cases ei : i = g
      · subst ei
        rw [if_pos ⟨Nat.le_refl _, by omega⟩]
        exact t6
      · rw [if_neg (by omega), (t1 i ei).1, f1 _ c12]
    · rw [if_neg c6]
      by_cases c7 : a = s + 7
      · subst c7
        rw [if_pos rfl]
        by_cases ei : i = g
        · subst ei
          rw [if_pos ⟨Nat.le_refl _, by omega⟩]
          exact t7
        · rw [if_neg (by omega), (t1 i ei).2, f1 _ c12]
      · rw [if_neg c7, t0 a c6 c7, f1 a c12]
/-- then the groups behind it -/
theorem pq_join {s g hi : Nat} {n : Int32} {μ : gM} (hs : 34 ≤ s) (gh : g < hi) : pq s (g + 1) hi n (pq s g (g + 1) n μ) = pq s g hi n μ := by
  have k11 : pq s g (g + 1) n μ 11 = μ 11 := pq_f (by omega) (by omega) (by omega)
  have ks : pq s g (g + 1) n μ s = μ s := pq_f (by omega) (by omega) (by omega)
  have k5 : pq s g (g + 1) n μ (s + 5) = μ (s + 5) := pq_f (by omega) (by omega) (by omega)
  have kx : ∀ a i, pq s g (g + 1) n μ a i = if a = s + 12 then (if g ≤ i / 6 ∧ i / 6 < g + 1 ∧ bt (μ 11 (i / 6) &&& μ s 1) (i % 6) = true then μ a i - n else μ a i) else if a = s + 6 then (if g ≤ i ∧ i < g + 1 then μ a i + inc (orp (μ 11 i) (μ s 1) (μ (s + 5) i)) n else μ a i) else if a = s + 7 then (if g ≤ i ∧ i < g + 1 then μ a i + inc (dbl (μ s 3) (μ (s + 5) i)) n else μ a i) else μ a i := fun _ _ => rfl
  generalize pq s g (g + 1) n μ = ν at k11 ks k5 kx ⊢
  funext a i
  unfold pq
  rw [k11, ks, k5, kx a i]
  by_cases c12 : a = s + 12
  · rw [if_pos c12, if_pos c12, if_pos c12]
    by_cases b : bt (μ 11 (i / 6) &&& μ s 1) (i % 6) = true
    · by_cases c1 : i / 6 = g
      · rw [if_neg (show ¬ (g + 1 ≤ i / 6 ∧ i / 6 < hi ∧ bt (μ 11 (i / 6) &&& μ s 1) (i % 6) = true) by omega), if_pos ⟨by omega, by omega, b⟩, if_pos ⟨by omega, by omega, b⟩]
      · rw [if_neg (show ¬ (g ≤ i / 6 ∧ i / 6 < g + 1 ∧ bt (μ 11 (i / 6) &&& μ s 1) (i % 6) = true) by omega)]
        by_cases c2 : g + 1 ≤ i / 6 ∧ i / 6 < hi
        · rw [if_pos ⟨c2.1, c2.2, b⟩, if_pos ⟨by omega, c2.2, b⟩]
        · rw [if_neg (fun w => c2 ⟨w.1, w.2.1⟩), if_neg (fun w => c2 ⟨by have := w.1; omega, w.2.1⟩)]
    · rw [if_neg (fun w => b w.2.2), if_neg (fun w => b w.2.2), if_neg (fun w => b w.2.2)]
  · rw [if_neg c12, if_neg c12, if_neg c12]
    by_cases c6 : a = s + 6
    · rw [if_pos c6, if_pos c6, if_pos c6]
      by_cases c1 : i = g
      · rw [if_neg (show ¬ (g + 1 ≤ i ∧ i < hi) by omega), if_pos (show g ≤ i ∧ i < g + 1 by omega), if_pos (show g ≤ i ∧ i < hi by omega)]
      · rw [if_neg (show ¬ (g ≤ i ∧ i < g + 1) by omega)]
        by_cases c2 : g + 1 ≤ i ∧ i < hi
        · rw [if_pos c2, if_pos (show g ≤ i ∧ i < hi by omega)]
        · rw [if_neg c2, if_neg (show ¬ (g ≤ i ∧ i < hi) by omega)]
    · rw [if_neg c6, if_neg c6, if_neg c6]
      by_cases c7 : a = s + 7
      · rw [if_pos c7, if_pos c7, if_pos c7]
        by_cases c1 : i = g
        · rw [if_neg (show ¬ (g + 1 ≤ i ∧ i < hi) by omega), if_pos (show g ≤ i ∧ i < g + 1 by omega), if_pos (show g ≤ i ∧ i < hi by omega)]
        · rw [if_neg (show ¬ (g ≤ i ∧ i < g + 1) by omega)]
          by_cases c2 : g + 1 ≤ i ∧ i < hi
          · rw [if_pos c2, if_pos (show g ≤ i ∧ i < hi by omega)]
          · rw [if_neg c2, if_neg (show ¬ (g ≤ i ∧ i < hi) by omega)]
      · rw [if_neg c7, if_neg c7, if_neg c7]
