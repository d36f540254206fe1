/-! quiet ticks one by one are quiet ticks at once -/
theorem pq_nil {s g : Nat} {n : Int32} {μ : gM} : pq s g g n μ = μ := by
  funext a i
  unfold pq
  rw [if_neg (show ¬ (g ≤ i / 6 ∧ i / 6 < g ∧ bt (μ 11 (i / 6) &&& μ s 1) (i % 6) = true) by omega), if_neg (show ¬ (g ≤ i ∧ i < g) by omega), if_neg (show ¬ (g ≤ i ∧ i < g) by omega)]
  split
  · rfl
  · split
    · rfl
    · split <;> rfl
/-- the holders of every group fit into six bits -/
def HB6 (s : Nat) (μ : gM) : Prop := ∀ g, g < 5 → 0 ≤ (μ (s + 5) g).toInt ∧ (μ (s + 5) g).toInt ≤ 63
theorem HB6.pq {s lo hi : Nat} {n : Int32} {μ : gM} (h : HB6 s μ) : HB6 s (pq s lo hi n μ) := fun g hg => by rw [pq_f (by omega) (by omega) (by omega)]; exact h g hg
theorem cPQ_l {s hi : Nat} {n : Int32} (hs : 34 ≤ s) (h5 : hi ≤ 5) : ∀ (m g : Nat) (μ : gM), HB6 s μ → (μ (s + 14) 3).toInt = (hi : Int) - 1 → g ≤ hi → 5 < g + m → fX10_passQuietly_l5 s m n (nI g) μ = some (gUp (pq s g hi n μ) s 0 (μ s 0 + n)) := by
  intro m
  induction m with
  | zero => intro g μ _ _ h1 h2; exact absurd h2 (by omega)
  | succ m ih =>
    intro g μ hb hl hg h2
    have tg : (nI g).toInt = g := tN (by omega)
    rw [fX10_passQuietly_l5]
    by_cases c : g = hi
    · subst c
      rw [if_pos (Int32.lt_iff_toInt_lt.mpr (by omega)), zLt_eq, pq_nil]
    · have g5 : g < 5 := by omega
      rw [if_neg (fun w => by have := Int32.lt_iff_toInt_lt.mp w; omega)]
      obtain ⟨μ1, μ2, e1, e2, f1, e3⟩ := cWT (n := n) (hi := hi) g5 hs (by omega) (hb g g5)
      rw [e1, zBd_some, e2, zBd_some, zLt_eq, show nI g + (1 : Int32) = nI (g + 1) from nI_1 g, e3]
      have ks : pq s g (g + 1) n μ s = μ s := pq_f (by omega) (by omega) (by omega)
      have k14 : pq s g (g + 1) n μ (s + 14) = μ (s + 14) := pq_f (by omega) (by omega) (by omega)
      rw [ih (g + 1) _ hb.pq (by rw [k14]; exact hl) (by omega) (by omega), pq_join hs (by omega), ks]
theorem cSendQ {s g : Nat} {μ : gM} (hg : g < 5) (hc : ∀ i, i < 6 → bt (μ 11 g &&& μ s 1) i = true → 1 ≤ (μ (s + 12) (6 * g + i)).toInt) : ∀ (m k : Nat), k ≤ 6 → 6 < k + m → fX10_send_l23 s m (nI g) (nI 0) (μ 11 g &&& μ s 1) (nI k) μ = some (nI 0, μ) := by
  intro m
  induction m with
  | zero => intro k h1 h2; exact absurd h2 (by omega)
  | succ m ih =>
    intro k h1 h2
    rw [fX10_send_l23]
    by_cases c : k = 6
    · rw [if_pos ((le6 (by omega)).mpr (by omega))]
    · have k6 : k < 6 := by omega
      rw [if_neg (fun w => c (by have := (le6 (by omega)).mp w; omega)), zLt_eq, o6f hg k6]
      unfold zCk
      rw [if_pos (gI (by omega) (by decide)), nI_clamp (by omega), zLt_eq, show nI k + (1 : Int32) = nI (k + 1) from nI_1 k]
      by_cases cb : bt (μ 11 g &&& μ s 1) k = true
      · have z : (0 : Int32).toInt = 0 := rfl
        have := hc k k6 cb
        rw [if_neg (fun w => by have := (bit0_iff (by omega)).mp w; rw [cb] at this; exact absurd this (by decide)), if_neg (fun w => by have := Int32.le_iff_toInt_le.mp w; omega)]
        exact ih (k + 1) (by omega) (by omega)
      · rw [if_pos ((bit0_iff (by omega)).mpr (Bool.eq_false_iff.mpr cb))]
        exact ih (k + 1) (by omega) (by omega)
theorem cQstep_l {s hi : Nat} (hs : 34 ≤ s) (h5 : hi ≤ 5) : ∀ (m g : Nat) (μ : gM), HB6 s μ → CLK s g hi 1 μ → (μ (s + 14) 3).toInt = (hi : Int) - 1 → g ≤ hi → 5 < g + m → fX10_step_l26 s m (nI g) μ = some (1, gUp (pq s g hi 1 μ) s 0 (μ s 0 + 1)) := by
  intro m
  induction m with
  | zero => intro g μ _ _ _ h1 h2; exact absurd h2 (by omega)
  | succ m ih =>
    intro g μ hb hc hl hg h2
    have tg : (nI g).toInt = g := tN (by omega)
    rw [fX10_step_l26]
    by_cases c : g = hi
    · subst c
      rw [if_pos (Int32.lt_iff_toInt_lt.mpr (by omega)), zLt_eq, pq_nil]
    · have g5 : g < 5 := by omega
      rw [if_neg (fun w => by have := Int32.lt_iff_toInt_lt.mp w; omega), cSendE g5, cSendQ g5 (fun i hi' hb' => hc g i (Nat.le_refl _) (by omega) hi' hb') 100000 0 (by decide) (by decide), zBp_some]
      obtain ⟨μ1, μ2, e1, e2, f1, e3⟩ := cWT (n := 1) (hi := hi) g5 hs (by omega) (hb g g5)
      rw [e1, zBd_some, cDelE, cDel_t (S := nI 0) 100000 0 (by decide) (by decide) (fun j _ _ => bt_zero j), zBd_some, e2, zBd_some, zLt_eq, show nI g + (1 : Int32) = nI (g + 1) from nI_1 g, e3]
      have ks : pq s g (g + 1) 1 μ s = μ s := pq_f (by omega) (by omega) (by omega)
      have k14 : pq s g (g + 1) 1 μ (s + 14) = μ (s + 14) := pq_f (by omega) (by omega) (by omega)
      have k11 : pq s g (g + 1) 1 μ 11 = μ 11 := pq_f (by omega) (by omega) (by omega)
      rw [ih (g + 1) _ hb.pq (fun g' i h1 h2 hi' hb' => ?_) (by rw [k14]; exact hl) (by omega) (by omega), pq_join hs (by omega), ks]
      rw [k11, ks] at hb'
      have : pq s g (g + 1) 1 μ (s + 12) (6 * g' + i) = μ (s + 12) (6 * g' + i) := by
        unfold pq
        rw [if_pos rfl, if_neg (by omega)]
      rw [this]
      exact hc g' i (by omega) h2 hi' hb'
/-- a state of the class in which it may be run -/
def WS (s n nx lo hi : Nat) (μ : gM) : Prop := HB6 s μ ∧ (μ (s + 14) 2 = nI lo ∧ (μ (s + 14) 3).toInt = (hi : Int) - 1 ∧ lo ≤ hi ∧ hi ≤ 5) ∧ (n ≤ 20 ∧ nx ≤ n ∧ μ (s + 1) 0 = nI n ∧ μ s 8 = nI nx) ∧ (0 ≤ (μ s 0).toInt ∧ (μ s 0).toInt ≤ 100000) ∧ (nx < n → (μ s 0).toInt ≤ (μ (s + 2) (5 * nx)).toInt ∧ (μ (s + 2) (5 * nx)).toInt ≤ 9999)
theorem cTickQ {s n nx lo hi : Nat} {μ : gM} (hs : 34 ≤ s) (w : WS s n nx lo hi μ) (hc : CLK s lo hi 1 μ) (ha : nx < n → (μ s 0).toInt < (μ (s + 2) (5 * nx)).toInt) : cTick s μ = some (1, gUp (pq s lo hi 1 μ) s 0 (μ s 0 + 1)) := by
  obtain ⟨hb, ⟨l1, l2, l3, l4⟩, ⟨n1, n2, n3, n4⟩, -, -⟩ := w
  have eh : fX10_happen s μ = some μ := by
    unfold fX10_happen
    rw [zLt_eq, n4, show (100000 : Nat) = 99999 + 1 from rfl, fX10_happen_l8, n3]
    by_cases c : n ≤ nx
    · rw [if_pos ((nIle (by omega) (by omega)).mpr c)]
    · have ea : fX5_at (s + 1) (nI nx) μ = some (μ (s + 2) (5 * nx)) := by
        unfold fX5_at zCk
        rw [show nI nx * (5 : Int32) = nI (5 * nx) by rw [show (5 : Int32) = nI 5 from rfl, pk_mul, Nat.mul_comm], if_pos (gI (by omega) (by decide)), nI_clamp (by omega)]
      have := ha (by omega)
      rw [if_neg (fun w => c ((nIle (by omega) (by omega)).mp w)), ea, zBd_some, if_neg (fun w => by rw [w] at this; omega)]
  unfold cTick
  rw [eh, zBd_some, l1]
  exact cQstep_l hs l4 100000 lo μ hb hc l2 l3 (by omega)
/-- ticks one by one -/
def cTk (s : Nat) : Nat → gM → Option gM
  | 0, μ => some μ
  | k + 1, μ => zBp (cTick s μ) (fun _ μ' => cTk s k μ')
theorem inc_add (o : Int32) (a b : Int32) : inc o a + inc o b = inc o (a + b) := by
  unfold inc
  split
  · exact Int32.add_zero _
  · rfl
theorem pq_add {s lo hi : Nat} {a b v : Int32} {μ : gM} (hs : 34 ≤ s) : gUp (pq s lo hi b (gUp (pq s lo hi a μ) s 0 (μ s 0 + a))) s 0 v = gUp (pq s lo hi (a + b) μ) s 0 v := by
  have k11 : gUp (pq s lo hi a μ) s 0 (μ s 0 + a) 11 = μ 11 := by rw [zUp_ne _ (by omega), pq_f (by omega) (by omega) (by omega)]
  have k5 : gUp (pq s lo hi a μ) s 0 (μ s 0 + a) (s + 5) = μ (s + 5) := by rw [zUp_ne _ (by omega), pq_f (by omega) (by omega) (by omega)]
  have ks : ∀ j, j ≠ 0 → gUp (pq s lo hi a μ) s 0 (μ s 0 + a) s j = μ s j := fun j hj => by rw [zUp_slot _ hj, pq_f (by omega) (by omega) (by omega)]
  have kr : ∀ r i, r ≠ s → gUp (pq s lo hi a μ) s 0 (μ s 0 + a) r i = if r = s + 12 then (if lo ≤ i / 6 ∧ i / 6 < hi ∧ bt (μ 11 (i / 6) &&& μ s 1) (i % 6) = true then μ r i - a else μ r i) else if r = s + 6 then (if lo ≤ i ∧ i < hi then μ r i + inc (orp (μ 11 i) (μ s 1) (μ (s + 5) i)) a else μ r i) else if r = s + 7 then (if lo ≤ i ∧ i < hi then μ r i + inc (dbl (μ s 3) (μ (s + 5) i)) a else μ r i) else μ r i := fun r i hr => by rw [zUp_ne _ hr]; rfl
  funext x i
  rw [zUp_at, zUp_at]
  by_cases cs : x = s
  · subst cs
    rw [if_pos rfl, if_pos rfl]
    by_cases ci : i = 0
    · rw [if_pos ci, if_pos ci]
    · rw [if_neg ci, if_neg ci, pq_f (by omega) (by omega) (by omega), ks i ci, pq_f (by omega) (by omega) (by omega)]
  · rw [if_neg cs, if_neg cs]
    generalize eν : gUp (pq s lo hi a μ) s 0 (μ s 0 + a) = ν at *
    unfold pq
    rw [k11, k5, ks 1 (by decide), ks 3 (by decide)]
    by_cases c12 : x = s + 12
    · rw [if_pos c12, if_pos c12]
      have kx : ν x i = if lo ≤ i / 6 ∧ i / 6 < hi ∧ bt (μ 11 (i / 6) &&& μ s 1) (i % 6) = true then μ x i - a else μ x i := by rw [kr x i cs, if_pos c12]
      rw [kx]
      by_cases c : lo ≤ i / 6 ∧ i / 6 < hi ∧ bt (μ 11 (i / 6) &&& μ s 1) (i % 6) = true
      · rw [if_pos c, if_pos c, if_pos c, Int32.sub_sub]
      · rw [if_neg c, if_neg c, if_neg c]
    · rw [if_neg c12, if_neg c12]
      by_cases c6 : x = s + 6
      · rw [if_pos c6, if_pos c6]
        have kx : ν x i = if lo ≤ i ∧ i < hi then μ x i + inc (orp (μ 11 i) (μ s 1) (μ (s + 5) i)) a else μ x i := by rw [kr x i cs, if_neg c12, if_pos c6]
        rw [kx]
        by_cases c : lo ≤ i ∧ i < hi
        · rw [if_pos c, if_pos c, if_pos c, Int32.add_assoc, inc_add]
        · rw [if_neg c, if_neg c, if_neg c]
      · rw [if_neg c6, if_neg c6]
        by_cases c7 : x = s + 7
        · rw [if_pos c7, if_pos c7]
          have kx : ν x i = if lo ≤ i ∧ i < hi then μ x i + inc (dbl (μ s 3) (μ (s + 5) i)) a else μ x i := by rw [kr x i cs, if_neg c12, if_neg c6, if_pos c7]
          rw [kx]
          by_cases c : lo ≤ i ∧ i < hi
          · rw [if_pos c, if_pos c, if_pos c, Int32.add_assoc, inc_add]
          · rw [if_neg c, if_neg c, if_neg c]
        · rw [if_neg c7, if_neg c7, kr x i cs, if_neg c12, if_neg c6, if_neg c7]
theorem WS.one {s n nx lo hi : Nat} {μ : gM} (hs : 34 ≤ s) (w : WS s n nx lo hi μ) (ha : nx < n → (μ s 0).toInt < (μ (s + 2) (5 * nx)).toInt) (tb : (μ s 0).toInt < 100000) : WS s n nx lo hi (gUp (pq s lo hi 1 μ) s 0 (μ s 0 + 1)) := by
  obtain ⟨hb, ⟨l1, l2, l3, l4⟩, ⟨n1, n2, n3, n4⟩, t1, t2⟩ := w
  have kr : ∀ r, r ≠ s → r ≠ s + 12 → r ≠ s + 6 → r ≠ s + 7 → gUp (pq s lo hi 1 μ) s 0 (μ s 0 + 1) r = μ r := fun r h1 h2 h3 h4 => by rw [zUp_ne _ h1, pq_f h2 h3 h4]
  have e : (μ s 0 + 1).toInt = (μ s 0).toInt + 1 := iA rfl (iL (1) (1) rfl) (by omega) (by omega)
  refine ⟨fun g hg => by rw [kr _ (by omega) (by omega) (by omega) (by omega)]; exact hb g hg, ⟨by rw [kr _ (by omega) (by omega) (by omega) (by omega)]; exact l1, by rw [kr _ (by omega) (by omega) (by omega) (by omega)]; exact l2, l3, l4⟩, ⟨n1, n2, by rw [kr _ (by omega) (by omega) (by omega) (by omega)]; exact n3, by rw [zUp_slot _ (by decide), pq_f (by omega) (by omega) (by omega)]; exact n4⟩, by rw [zUp_same, e]; omega, fun h => ?_⟩
  rw [zUp_same, e, kr (s + 2) (by omega) (by omega) (by omega) (by omega)]
  have := ha h
  have := t2 h
  omega
theorem quietIter {s n nx lo hi : Nat} (hs : 34 ≤ s) : ∀ (q : Nat) (μ : gM), WS s n nx lo hi μ → CLK s lo hi ((q + 1 : Nat) : Int) μ → (nx < n → (μ s 0).toInt + ((q + 1 : Nat) : Int) ≤ (μ (s + 2) (5 * nx)).toInt) → (μ s 0).toInt + ((q + 1 : Nat) : Int) ≤ 100000 → cTk s (q + 1) μ = some (gUp (pq s lo hi (nI (q + 1)) μ) s 0 (μ s 0 + nI (q + 1))) := by
  intro q
  induction q with
  | zero =>
    intro μ w hc ha tb
    rw [cTk, cTickQ hs w hc (fun h => by have := ha h; omega), zBp_some]
    rfl
  | succ q ih =>
    intro μ w hc ha tb
    rw [cTk, cTickQ hs w (fun g' i h1 h2 h3 h4 => by have := hc g' i h1 h2 h3 h4; omega) (fun h => by have := ha h; omega), zBp_some]
    have w1 := w.one hs (fun h => by have := ha h; omega) (by omega)
    have t0 := w.2.2.2.1
    have e : (μ s 0 + 1).toInt = (μ s 0).toInt + 1 := iA rfl (iL (1) (1) rfl) (by omega) (by omega)
    have k0 : gUp (pq s lo hi 1 μ) s 0 (μ s 0 + 1) s 0 = μ s 0 + 1 := zUp_same _ _ _ _
    have k1 : gUp (pq s lo hi 1 μ) s 0 (μ s 0 + 1) s 1 = μ s 1 := by rw [zUp_slot _ (by decide), pq_f (by omega) (by omega) (by omega)]
    have k11 : gUp (pq s lo hi 1 μ) s 0 (μ s 0 + 1) 11 = μ 11 := by rw [zUp_ne _ (by omega), pq_f (by omega) (by omega) (by omega)]
    have k2 : gUp (pq s lo hi 1 μ) s 0 (μ s 0 + 1) (s + 2) = μ (s + 2) := by rw [zUp_ne _ (by omega), pq_f (by omega) (by omega) (by omega)]
    rw [ih _ w1 (fun g' i h1 h2 h3 h4 => ?_) (fun h => by rw [k0, k2, e]; have := ha h; omega) (by rw [k0, e]; omega)]
    · rw [k0, pq_add hs, Int32.add_assoc, show (1 : Int32) + nI (q + 1) = nI (q + 1 + 1) by rw [Int32.add_comm]; exact nI_1 (q + 1)]
    · rw [k11, k1] at h4
      have := hc g' i h1 h2 h3 h4
      have e12 : gUp (pq s lo hi 1 μ) s 0 (μ s 0 + 1) (s + 12) (6 * g' + i) = μ (s + 12) (6 * g' + i) - 1 := by
        rw [zUp_ne _ (by omega)]
        unfold pq
        rw [if_pos rfl, if_pos ⟨by omega, by omega, by rw [show (6 * g' + i) / 6 = g' by omega, show (6 * g' + i) % 6 = i by omega]; exact h4⟩]
      have b := i32b (μ (s + 12) (6 * g' + i))
      rw [e12, iS rfl (iL (1) (1) rfl) (by omega) (by omega)]
      omega
/-- a step of the class: one tick, or so many that are quiet -/
theorem cStep {s n nx lo hi : Nat} {most : Int32} {μ : gM} (hs : 34 ≤ s) (w : WS s n nx lo hi μ) (tb : (μ s 0).toInt + most.toInt ≤ 100000) : fX10_step s most μ = cTick s μ ∨ ∃ (q : Nat) (μ' : gM), 1 ≤ q ∧ (q : Int) ≤ most.toInt ∧ fX10_step s most μ = some (nI q, μ') ∧ cTk s q μ = some μ' := by
  obtain ⟨hb, ⟨l1, l2, l3, l4⟩, ⟨n1, n2, n3, n4⟩, t1, t2⟩ := id w
  obtain ⟨q, e, q1, q2, q3⟩ := cQuiet (most := most) l4 (by omega) l1 l2 n1 n2 n3 n4
  have z : (0 : Int32).toInt = 0 := rfl
  unfold fX10_step
  rw [e, zBd_some]
  by_cases c : q ≤ 0
  · rw [if_pos c]
    exact Or.inl rfl
  · have qp : 0 < q.toInt := by
      have : ¬ q.toInt ≤ (0 : Int32).toInt := fun w => c (Int32.le_iff_toInt_le.mpr w)
      omega
    obtain ⟨k, hk⟩ : ∃ k : Nat, q.toInt = ((k + 1 : Nat) : Int) := ⟨q.toInt.toNat - 1, by omega⟩
    have eq : q = nI (k + 1) := nI_of' hk
    have it := quietIter hs k μ w (by rw [← hk]; exact q3 qp) (fun h => by
      have a := q2 h
      have b := t2 h
      rw [iS rfl rfl (by omega) (by omega)] at a
      omega) (by omega)
    refine Or.inr ⟨k + 1, _, by omega, by omega, ?_, it⟩
    rw [if_neg c]
    unfold fX10_passQuietly
    rw [zLt_eq, l1, cPQ_l hs l4 100000 lo μ hb l2 l3 (by omega), zBd_some, eq]
