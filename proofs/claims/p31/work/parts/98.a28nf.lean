/-! counts: one word changed, one member changed -/
theorem s6_le {F G : Nat → Int} (h : ∀ k, k < 6 → F k ≤ G k) : s6 F ≤ s6 G := by
  have a0 := h 0 (by decide)
  have a1 := h 1 (by decide)
  have a2 := h 2 (by decide)
  have a3 := h 3 (by decide)
  have a4 := h 4 (by decide)
  have a5 := h 5 (by decide)
  simp only [s6]
  omega
theorem s6_sub (F G : Nat → Int) : s6 (fun k => F k - G k) = s6 F - s6 G := by
  simp only [s6]
  omega
theorem s6_ind (p : Nat → Bool) : s6 (fun k => if p k = true then 1 else 0) = (lq_rw p 6 : Nat) := by
  show (if p 0 = true then (1 : Int) else 0) + (if p 1 = true then 1 else 0) + (if p 2 = true then 1 else 0) + (if p 3 = true then 1 else 0) + (if p 4 = true then 1 else 0) + (if p 5 = true then 1 else 0) = ((0 + (if p 0 = true then 1 else 0) + (if p 1 = true then 1 else 0) + (if p 2 = true then 1 else 0) + (if p 3 = true then 1 else 0) + (if p 4 = true then 1 else 0) + (if p 5 = true then 1 else 0) : Nat) : Int)
  cases p 0 <;> cases p 1 <;> cases p 2 <;> cases p 3 <;> cases p 4 <;> cases p 5 <;> rfl
theorem nCl_r (r r' h : Nat) (v : Int) : nCl r h v - nCl r' h v ≤ 2 := by
  unfold nCl tq_X tq_Y tq_Z tq_r
  repeat' split
  all_goals omega
theorem nCl_up (r h : Nat) (v : Int) : nCl r h v - nCl (r + 1) h v ≤ if r = 2 then 2 else 0 := by
  unfold nCl tq_X tq_Y tq_Z tq_r
  repeat' split
  all_goals omega
theorem nCl_dn (r h : Nat) (v : Int) : nCl (r + 1) h v - nCl r h v ≤ if r + 1 = 5 then 2 else 0 := by
  unfold nCl tq_X tq_Y tq_Z tq_r
  repeat' split
  all_goals omega
theorem nCl_0 (r : Nat) (v : Int) : nCl r 0 v = 0 := by
  unfold nCl tq_X tq_Y tq_Z
  repeat' split
  all_goals omega
theorem nCl_b (r h : Nat) (v : Int) : -2 ≤ nCl r h v ∧ nCl r h v ≤ 2 := by
  have := tq_X_b h
  have := tq_Y_b h v
  have := tq_Z_b h v
  unfold nCl
  repeat' split
  all_goals omega
theorem nRk_ot {κ κ' : Nat → Int} {m k : Nat} (hm : m < 6) (hk : k ≠ m) (ot : ∀ j, j ≠ m → κ' j = κ j) : nRk κ' k + (if κ k < κ m then 1 else 0) = nRk κ k + (if κ' k < κ' m then 1 else 0) := by
  have g : ∀ n, n ≤ 6 → lq_rw (fun j => decide (κ' k < κ' j)) n + (if m < n ∧ κ k < κ m then 1 else 0) = lq_rw (fun j => decide (κ k < κ j)) n + (if m < n ∧ κ' k < κ' m then 1 else 0) := by
    intro n
    induction n with
    | zero => intro _; rfl
    | succ n ih =>
      intro hn
      have i := ih (by omega)
      show lq_rw (fun j => decide (κ' k < κ' j)) n + (if decide (κ' k < κ' n) = true then 1 else 0) + _ = lq_rw (fun j => decide (κ k < κ j)) n + (if decide (κ k < κ n) = true then 1 else 0) + _
      generalize lq_rw (fun j => decide (κ' k < κ' j)) n = A at i ⊢
      generalize lq_rw (fun j => decide (κ k < κ j)) n = B at i ⊢
      simp only [decide_eq_true_eq]
      by_cases c : n = m
      · subst c
        rw [if_neg (fun w => absurd w.1 (Nat.lt_irrefl _)), if_neg (fun w => absurd w.1 (Nat.lt_irrefl _))] at i
        by_cases c1 : κ k < κ n <;> by_cases c2 : κ' k < κ' n <;> simp [c1, c2] <;> omega
      · rw [ot n c, ot k hk]
        rw [ot k hk] at i
        generalize (if κ k < κ n then 1 else 0) = X
        by_cases mn : m < n
        · have mn1 : m < n + 1 := by omega
          simp only [mn, true_and] at i
          simp only [mn1, true_and]
          omega
        · have mn1 : ¬ m < n + 1 := by omega
          simp only [mn, false_and, if_false] at i
          simp only [mn1, false_and, if_false]
          omega
  have := g 6 (Nat.le_refl _)
  simp only [hm, true_and] at this
  exact this
/-- one key changed: at most 4 less -/
theorem nCt_k1 {κ κ' : Nat → Int} {m : Nat} {h : Nat → Nat} {v : Nat → Int} (hm : m < 6) (h1 : nKi κ) (ot : ∀ j, j ≠ m → κ' j = κ j) : nCt κ h v - nCt κ' h v ≤ 4 := by
  unfold nCt
  rw [← s6_sub]
  have uq : ∀ q : Nat, lq_rw (fun k => decide (nRk κ k = q)) 6 ≤ 1 := fun q => lq_rw_1 (fun i j hi hj ei ej => nRk_inj h1 i j hi hj ((of_decide_eq_true ei).trans (of_decide_eq_true ej).symm))
  have um : s6 (fun k => if k = m then (2 : Int) else 0) = 2 := by
    rw [s6_one hm (fun j _ ne => if_neg ne), if_pos rfl]
  have fin : ∀ q : Nat, (∀ k, k < 6 → k ≠ m → nCl (nRk κ k) (h k) (v k) - nCl (nRk κ' k) (h k) (v k) ≤ if nRk κ k = q then 2 else 0) → s6 (fun k => nCl (nRk κ k) (h k) (v k) - nCl (nRk κ' k) (h k) (v k)) ≤ 4 := fun q w => by
    have a := s6_le (F := fun k => nCl (nRk κ k) (h k) (v k) - nCl (nRk κ' k) (h k) (v k)) (G := fun k => (if k = m then (2 : Int) else 0) - (-2) * (if decide (nRk κ k = q) = true then 1 else 0)) (fun k hk => by
      show nCl (nRk κ k) (h k) (v k) - nCl (nRk κ' k) (h k) (v k) ≤ (if k = m then (2 : Int) else 0) - (-2) * (if decide (nRk κ k = q) = true then 1 else 0)
      have i0 : (0 : Int) ≤ (if decide (nRk κ k = q) = true then 1 else 0) := by split <;> omega
      by_cases c : k = m
      · have := nCl_r (nRk κ k) (nRk κ' k) (h k) (v k)
        rw [if_pos c]
        omega
      · have := w k hk c
        rw [if_neg c]
        by_cases c2 : nRk κ k = q
        · rw [if_pos c2] at this
          rw [if_pos (decide_eq_true c2)]
          omega
        · rw [if_neg c2] at this
          rw [if_neg (fun z => c2 (of_decide_eq_true z))]
          omega)
    have b2 : s6 (fun k => (if k = m then (2 : Int) else 0) - (-2) * (if decide (nRk κ k = q) = true then 1 else 0)) = s6 (fun k => if k = m then (2 : Int) else 0) - s6 (fun k => (-2 : Int) * (if decide (nRk κ k = q) = true then 1 else 0)) := s6_sub _ _
    rw [b2, um] at a
    have b := s6_ind (fun k => decide (nRk κ k = q))
    have u := uq q
    have e : s6 (fun k => (-2 : Int) * (if decide (nRk κ k = q) = true then 1 else 0)) = -2 * s6 (fun k => if decide (nRk κ k = q) = true then (1 : Int) else 0) := by
      simp only [s6]
      omega
    rw [e, b] at a
    omega
  by_cases c : κ m ≤ κ' m
  · refine fin 2 (fun k hk ne => ?_)
    have r := nRk_ot (k := k) hm ne ot
    rw [ot k ne] at r
    by_cases c1 : κ k < κ m
    · rw [if_pos c1, if_pos (by omega)] at r
      rw [show nRk κ' k = nRk κ k by omega]
      split <;> omega
    · rw [if_neg c1] at r
      by_cases c2 : κ k < κ' m
      · rw [if_pos c2] at r
        rw [show nRk κ' k = nRk κ k + 1 by omega]
        exact nCl_up _ _ _
      · rw [if_neg c2] at r
        rw [show nRk κ' k = nRk κ k by omega]
        split <;> omega
  · refine fin 5 (fun k hk ne => ?_)
    have r := nRk_ot (k := k) hm ne ot
    rw [ot k ne] at r
    by_cases c1 : κ k < κ' m
    · rw [if_pos c1, if_pos (by omega)] at r
      rw [show nRk κ' k = nRk κ k by omega]
      split <;> omega
    · rw [if_neg c1] at r
      by_cases c2 : κ k < κ m
      · rw [if_pos c2] at r
        rw [show nRk κ k = nRk κ' k + 1 by omega]
        exact nCl_dn _ _ _
      · rw [if_neg c2] at r
        rw [show nRk κ' k = nRk κ k by omega]
        split <;> omega
/-- some keys changed: at most 4 less for each, at most 11 -/
def nKw (w : Nat → Int) : Nat → Int := fun k => 8 * w k + k
theorem nKw_i (w : Nat → Int) : nKi (nKw w) := fun i j hi hj h => by
  unfold nKw at h
  omega
theorem nCt_kn {w w' : Nat → Int} {h : Nat → Nat} {v : Nat → Int} {p : Nat → Bool} (hp : ∀ k, k < 6 → p k = false → w' k = w k) : nCt (nKw w) h v - nCt (nKw w') h v ≤ 4 * (lq_rw p 6 : Nat) ∧ nCt (nKw w) h v - nCt (nKw w') h v ≤ 11 := by
  have g : ∀ n, n ≤ 6 → nCt (nKw w) h v - nCt (nKw (fun k => if k < n then w' k else w k)) h v ≤ 4 * (lq_rw p n : Nat) := by
    intro n
    induction n with
    | zero =>
      intro _
      have e : (fun k => if k < 0 then w' k else w k) = w := funext (fun k => if_neg (Nat.not_lt_zero _))
      rw [e]
      show _ ≤ 4 * ((0 : Nat) : Int)
      omega
    | succ n ih =>
      intro hn
      have i := ih (by omega)
      show _ ≤ 4 * ((lq_rw p n + (if p n = true then 1 else 0) : Nat) : Int)
      cases c : p n with
      | false =>
        have e : (fun k => if k < n + 1 then w' k else w k) = (fun k => if k < n then w' k else w k) := funext (fun k => by
          by_cases ck : k = n
          · subst ck
            rw [if_pos (by omega), if_neg (by omega)]
            exact hp k (by omega) c
          · by_cases c2 : k < n
            · rw [if_pos c2, if_pos (by omega)]
            · rw [if_neg c2, if_neg (by omega)])
        rw [e, if_neg (by decide)]
        omega
      | true =>
        have q := nCt_k1 (κ := nKw (fun k => if k < n then w' k else w k)) (κ' := nKw (fun k => if k < n + 1 then w' k else w k)) (m := n) (h := h) (v := v) (by omega) (nKw_i _) (fun j hj => by
          show 8 * (if j < n + 1 then w' j else w j) + (j : Int) = 8 * (if j < n then w' j else w j) + (j : Int)
          by_cases c2 : j < n
          · rw [if_pos c2, if_pos (by omega)]
          · rw [if_neg c2, if_neg (by omega)])
        rw [if_pos rfl]
        omega
  have a := g 6 (Nat.le_refl _)
  have e : nCt (nKw (fun k => if k < 6 then w' k else w k)) h v = nCt (nKw w') h v := by
    have rk : ∀ k, k < 6 → nRk (nKw (fun k => if k < 6 then w' k else w k)) k = nRk (nKw w') k := fun k hk => lq_rw_cg (fun j hj => by
      show decide (8 * (if k < 6 then w' k else w k) + (k : Int) < 8 * (if j < 6 then w' j else w j) + (j : Int)) = decide (8 * w' k + (k : Int) < 8 * w' j + (j : Int))
      rw [if_pos hk, if_pos hj])
    exact s6_cg (fun k hk => by rw [rk k hk])
  rw [e] at a
  have b1 := nCt_b (nKw_i w) h v
  have b2 := nCt_b (nKw_i w') h v
  exact ⟨a, by omega⟩
/-- what all groups count -/
def nCs (ξ : gM) : Int := nCg ξ 0 + nCg ξ 1 + nCg ξ 2 + nCg ξ 3 + nCg ξ 4
theorem nCg_cg {g : Nat} {ξ ξ' : gM} (h : ∀ k, k < 6 → wv (ξ' 269) (ξ' 272 2) (ξ' 272 (10 + (6 * g + k))) g k = wv (ξ 269) (ξ 272 2) (ξ 272 (10 + (6 * g + k))) g k ∧ ξ' 272 (40 + (6 * g + k)) = ξ 272 (40 + (6 * g + k)) ∧ ξ' 272 (70 + (6 * g + k)) = ξ 272 (70 + (6 * g + k))) : nCg ξ' g = nCg ξ g := by
  unfold nCg nCt
  have ky : ∀ k, k < 6 → nKy ξ' g k = nKy ξ g k := fun k hk => by unfold nKy; rw [(h k hk).1]
  refine s6_cg (fun k hk => ?_)
  have rk : nRk (nKy ξ' g) k = nRk (nKy ξ g) k := lq_rw_cg (fun j hj => by rw [ky k hk, ky j hj])
  show nCl (nRk (nKy ξ' g) k) (ξ' 272 (40 + (6 * g + k))).toInt.toNat (ξ' 272 (70 + (6 * g + k))).toInt = nCl (nRk (nKy ξ g) k) (ξ 272 (40 + (6 * g + k))).toInt.toNat (ξ 272 (70 + (6 * g + k))).toInt
  rw [rk, (h k hk).2.1, (h k hk).2.2]
theorem nCg_b (ξ : gM) (g : Nat) : -6 ≤ nCg ξ g ∧ nCg ξ g ≤ 5 := nCt_b (nKy_inj ξ g) _ _
theorem nCs_b (ξ : gM) : -30 ≤ nCs ξ ∧ nCs ξ ≤ 25 := by
  have := nCg_b ξ 0
  have := nCg_b ξ 1
  have := nCg_b ξ 2
  have := nCg_b ξ 3
  have := nCg_b ξ 4
  unfold nCs
  omega
/-- one member of a group changed, words as they were -/
theorem nCg_m {g m : Nat} {ξ ξ' : gM} (hm : m < 6) (h : ∀ k, k < 6 → wv (ξ' 269) (ξ' 272 2) (ξ' 272 (10 + (6 * g + k))) g k = wv (ξ 269) (ξ 272 2) (ξ 272 (10 + (6 * g + k))) g k) (o : ∀ k, k < 6 → k ≠ m → ξ' 272 (40 + (6 * g + k)) = ξ 272 (40 + (6 * g + k)) ∧ ξ' 272 (70 + (6 * g + k)) = ξ 272 (70 + (6 * g + k))) : ∃ r, nCg ξ' g - nCg ξ g = nCl r (ξ' 272 (40 + (6 * g + m))).toInt.toNat (ξ' 272 (70 + (6 * g + m))).toInt - nCl r (ξ 272 (40 + (6 * g + m))).toInt.toNat (ξ 272 (70 + (6 * g + m))).toInt := by
  refine ⟨nRk (nKy ξ g) m, ?_⟩
  have ky : ∀ k, k < 6 → nKy ξ' g k = nKy ξ g k := fun k hk => by unfold nKy; rw [h k hk]
  have rk : ∀ k, k < 6 → nRk (nKy ξ' g) k = nRk (nKy ξ g) k := fun k hk => lq_rw_cg (fun j hj => by rw [ky k hk, ky j hj])
  unfold nCg nCt
  rw [← s6_sub, s6_one hm (fun j hj ne => ?_)]
  · show nCl (nRk (nKy ξ' g) m) (ξ' 272 (40 + (6 * g + m))).toInt.toNat (ξ' 272 (70 + (6 * g + m))).toInt - nCl (nRk (nKy ξ g) m) (ξ 272 (40 + (6 * g + m))).toInt.toNat (ξ 272 (70 + (6 * g + m))).toInt = _
    rw [rk m hm]
  · show nCl (nRk (nKy ξ' g) j) (ξ' 272 (40 + (6 * g + j))).toInt.toNat (ξ' 272 (70 + (6 * g + j))).toInt - nCl (nRk (nKy ξ g) j) (ξ 272 (40 + (6 * g + j))).toInt.toNat (ξ 272 (70 + (6 * g + j))).toInt = 0
    rw [rk j hj, (o j hj ne).1, (o j hj ne).2]
    omega
theorem nKy_w (ξ : gM) (g : Nat) : nKy ξ g = nKw (fun k => (wv (ξ 269) (ξ 272 2) (ξ 272 (10 + (6 * g + k))) g k).toInt) := rfl
theorem nCg_w {g : Nat} {ξ ξ' : gM} {p : Nat → Bool} (hp : ∀ k, k < 6 → p k = false → wv (ξ' 269) (ξ' 272 2) (ξ' 272 (10 + (6 * g + k))) g k = wv (ξ 269) (ξ 272 2) (ξ 272 (10 + (6 * g + k))) g k) (o : ∀ k, k < 6 → ξ' 272 (40 + (6 * g + k)) = ξ 272 (40 + (6 * g + k)) ∧ ξ' 272 (70 + (6 * g + k)) = ξ 272 (70 + (6 * g + k))) : nCg ξ g - nCg ξ' g ≤ 4 * (lq_rw p 6 : Nat) ∧ nCg ξ g - nCg ξ' g ≤ 11 := by
  have a := nCt_kn (w := fun k => (wv (ξ 269) (ξ 272 2) (ξ 272 (10 + (6 * g + k))) g k).toInt) (w' := fun k => (wv (ξ' 269) (ξ' 272 2) (ξ' 272 (10 + (6 * g + k))) g k).toInt) (h := fun k => (ξ 272 (40 + (6 * g + k))).toInt.toNat) (v := fun k => (ξ 272 (70 + (6 * g + k))).toInt) (p := p) (fun k hk e => by show (wv (ξ' 269) (ξ' 272 2) (ξ' 272 (10 + (6 * g + k))) g k).toInt = (wv (ξ 269) (ξ 272 2) (ξ 272 (10 + (6 * g + k))) g k).toInt; rw [hp k hk e])
  have e : nCg ξ' g = nCt (nKy ξ' g) (fun k => (ξ 272 (40 + (6 * g + k))).toInt.toNat) (fun k => (ξ 272 (70 + (6 * g + k))).toInt) := by
    unfold nCg nCt
    exact s6_cg (fun k hk => by
      show nCl (nRk (nKy ξ' g) k) (ξ' 272 (40 + (6 * g + k))).toInt.toNat (ξ' 272 (70 + (6 * g + k))).toInt = nCl (nRk (nKy ξ' g) k) (ξ 272 (40 + (6 * g + k))).toInt.toNat (ξ 272 (70 + (6 * g + k))).toInt
      rw [(o k hk).1, (o k hk).2])
  have e2 : nCg ξ g = nCt (nKy ξ g) (fun k => (ξ 272 (40 + (6 * g + k))).toInt.toNat) (fun k => (ξ 272 (70 + (6 * g + k))).toInt) := rfl
  rw [e, e2, nKy_w, nKy_w]
  exact a
