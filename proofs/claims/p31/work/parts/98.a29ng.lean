/-! an event: its moves against the counts -/
/-- has a member a track -/
def nTk (o : Nat → Int32) : Nat → Nat → Bool
  | 0, _ => false
  | t + 1, p => nTk o t p || decide (o (113 + 4 * t) = nI (p / 6) ∧ o (113 + 4 * t + 1) = nI (p % 6))
theorem lq_rw_or {p q : Nat → Bool} : ∀ n, lq_rw (fun j => p j || q j) n ≤ lq_rw p n + lq_rw q n := by
  intro n
  induction n with
  | zero => exact Nat.le_refl _
  | succ n ih =>
    show lq_rw (fun j => p j || q j) n + (if (p n || q n) = true then 1 else 0) ≤ lq_rw p n + (if p n = true then 1 else 0) + (lq_rw q n + (if q n = true then 1 else 0))
    cases p n <;> cases q n <;> simp <;> omega
theorem nTk_n (o : Nat → Int32) : ∀ t, lq_rw (nTk o t) 30 ≤ t := by
  intro t
  induction t with
  | zero => exact Nat.le_of_eq (lq_rw_0 (fun _ _ => rfl))
  | succ t ih =>
    have a : lq_rw (nTk o (t + 1)) 30 ≤ lq_rw (nTk o t) 30 + lq_rw (fun p => decide (o (113 + 4 * t) = nI (p / 6) ∧ o (113 + 4 * t + 1) = nI (p % 6))) 30 := lq_rw_or 30
    have b := lq_rw_1 (p := fun p => decide (o (113 + 4 * t) = nI (p / 6) ∧ o (113 + 4 * t + 1) = nI (p % 6))) (n := 30) (fun i j hi hj ei ej => by
      have ei := of_decide_eq_true ei
      have ej := of_decide_eq_true ej
      have x := nI_inj (by omega) (by omega) (ei.1.symm.trans ej.1)
      have y := nI_inj (by omega) (by omega) (ei.2.symm.trans ej.2)
      omega)
    omega
theorem lq_rw_sp {p : Nat → Bool} {a : Nat} : ∀ b, lq_rw p (a + b) = lq_rw p a + lq_rw (fun j => p (a + j)) b := by
  intro b
  induction b with
  | zero => rfl
  | succ b ih =>
    show lq_rw p (a + b) + (if p (a + b) = true then 1 else 0) = lq_rw p a + (lq_rw (fun j => p (a + j)) b + (if p (a + b) = true then 1 else 0))
    rw [ih]; omega
theorem nTk_5 (o : Nat → Int32) (t : Nat) : lq_rw (fun k => nTk o t (6 * 0 + k)) 6 + lq_rw (fun k => nTk o t (6 * 1 + k)) 6 + lq_rw (fun k => nTk o t (6 * 2 + k)) 6 + lq_rw (fun k => nTk o t (6 * 3 + k)) 6 + lq_rw (fun k => nTk o t (6 * 4 + k)) 6 ≤ t := by
  have h := nTk_n o t
  have e : lq_rw (nTk o t) 30 = lq_rw (nTk o t) 0 + lq_rw (fun k => nTk o t (6 * 0 + k)) 6 + lq_rw (fun k => nTk o t (6 * 1 + k)) 6 + lq_rw (fun k => nTk o t (6 * 2 + k)) 6 + lq_rw (fun k => nTk o t (6 * 3 + k)) 6 + lq_rw (fun k => nTk o t (6 * 4 + k)) 6 := by
    rw [show (30 : Nat) = 6 * 4 + 6 from rfl, lq_rw_sp, show (6 * 4 : Nat) = 6 * 3 + 6 from rfl, lq_rw_sp, show (6 * 3 : Nat) = 6 * 2 + 6 from rfl, lq_rw_sp, show (6 * 2 : Nat) = 6 * 1 + 6 from rfl, lq_rw_sp, show (6 * 1 : Nat) = 6 * 0 + 6 from rfl, lq_rw_sp]
  have z : lq_rw (nTk o t) 0 = 0 := rfl
  omega
theorem nTk_f {o : Nat → Int32} {g k : Nat} (hk : k < 6) : ∀ {n : Nat}, nTk o n (6 * g + k) = false → ∀ t, t < n → ¬ (o (113 + 4 * t) = nI g ∧ o (113 + 4 * t + 1) = nI k) := by
  intro n
  induction n with
  | zero => intro _ t h; omega
  | succ n ih =>
    intro h t ht
    have h : (nTk o n (6 * g + k) || decide (o (113 + 4 * n) = nI ((6 * g + k) / 6) ∧ o (113 + 4 * n + 1) = nI ((6 * g + k) % 6))) = false := h
    rw [Bool.or_eq_false_iff] at h
    by_cases c : t = n
    · subst c
      have := of_decide_eq_false h.2
      rw [show (6 * g + k) / 6 = g by omega, show (6 * g + k) % 6 = k by omega] at this
      exact this
    · exact ih h.1 t (by omega)
theorem nWvs {o : Nat → Int32} {cuts : Int32} {g k N : Nat} (h : ∀ t, t < N → ¬ (o (113 + 4 * t) = nI g ∧ o (113 + 4 * t + 1) = nI k)) : ∀ (n t : Nat) (v : Int32), t + n ≤ N → wvs o cuts g k n t v = v := by
  intro n
  induction n with
  | zero => intro t v _; rfl
  | succ n ih =>
    intro t v ht
    rw [wvs, if_neg (fun w => h t (by omega) ⟨w.1, w.2.1⟩)]
    exact ih (t + 1) v (by omega)
theorem nWv_no {o : Nat → Int32} {g k ct : Nat} (hk : k < 6) (h3 : o 3 = nI ct) (hc : ct ≤ 24) (h : nTk o ct (6 * g + k) = false) (cuts cuts' told : Int32) : wv o cuts' told g k = wv o cuts told g k := by
  have n := nTk_f hk h
  unfold wv
  rw [h3, tN (by omega), show (((ct : Nat) : Int).toNat) = ct from rfl, nWvs n ct 0 told (by omega), nWvs n ct 0 told (by omega)]
def jE (t : Nat) : Nat := max 10 (min (min (4 * t) (3 * t + 10)) 55)
theorem nCs_1 {g : Nat} {ξ ξ' : gM} (hg : g < 5) (h : ∀ g', g' < 5 → g' ≠ g → nCg ξ' g' = nCg ξ g') : nCs ξ' - nCs ξ = nCg ξ' g - nCg ξ g := by
  have q := fun g' a b => h g' a b
  unfold nCs
  have c : g = 0 ∨ g = 1 ∨ g = 2 ∨ g = 3 ∨ g = 4 := by omega
  rcases c with e | e | e | e | e <;> subst e
  · rw [q 1 (by decide) (by decide), q 2 (by decide) (by decide), q 3 (by decide) (by decide), q 4 (by decide) (by decide)]; omega
  · rw [q 0 (by decide) (by decide), q 2 (by decide) (by decide), q 3 (by decide) (by decide), q 4 (by decide) (by decide)]; omega
  · rw [q 0 (by decide) (by decide), q 1 (by decide) (by decide), q 3 (by decide) (by decide), q 4 (by decide) (by decide)]; omega
  · rw [q 0 (by decide) (by decide), q 1 (by decide) (by decide), q 2 (by decide) (by decide), q 4 (by decide) (by decide)]; omega
  · rw [q 0 (by decide) (by decide), q 1 (by decide) (by decide), q 2 (by decide) (by decide), q 3 (by decide) (by decide)]; omega
/-- work at member k alone, of group g: words as they were -/
def nG1 (g k : Nat) (ξ ξ' : gM) : Prop := ξ' 269 = ξ 269 ∧ (∀ i, i < 130 → i ≠ 7 → i ≠ 40 + (6 * g + k) → i ≠ 70 + (6 * g + k) → i ≠ 100 + (6 * g + k) → ξ' 272 i = ξ 272 i) ∧ (0 ≤ (ξ' 272 7).toInt ∧ (ξ' 272 7).toInt ≤ 60)
theorem nG1.wm {g k : Nat} {ξ ξ' : gM} (h : nG1 g k ξ ξ') (hk : k < 6) {g' j : Nat} (hg : g' < 5) (hj : j < 6) : wv (ξ' 269) (ξ' 272 2) (ξ' 272 (10 + (6 * g' + j))) g' j = wv (ξ 269) (ξ 272 2) (ξ 272 (10 + (6 * g' + j))) g' j := by
  rw [h.1, h.2.1 2 (by omega) (by omega) (by omega) (by omega) (by omega), h.2.1 (10 + (6 * g' + j)) (by omega) (by omega) (by omega) (by omega) (by omega)]
theorem nG1.cs {g k : Nat} {ξ ξ' : gM} (h : nG1 g k ξ ξ') (hg : g < 5) (hk : k < 6) : ∃ r, nCs ξ' - nCs ξ = nCl r (ξ' 272 (40 + (6 * g + k))).toInt.toNat (ξ' 272 (70 + (6 * g + k))).toInt - nCl r (ξ 272 (40 + (6 * g + k))).toInt.toNat (ξ 272 (70 + (6 * g + k))).toInt := by
  rw [nCs_1 hg (fun g' hg' ne => nCg_cg (fun j hj => ⟨h.wm hk hg' hj, h.2.1 _ (by omega) (by omega) (by omega) (by omega) (by omega), h.2.1 _ (by omega) (by omega) (by omega) (by omega) (by omega)⟩))]
  exact nCg_m hk (fun j hj => h.wm hk hg hj) (fun j hj ne => ⟨h.2.1 _ (by omega) (by omega) (by omega) (by omega) (by omega), h.2.1 _ (by omega) (by omega) (by omega) (by omega) (by omega)⟩)
/-- the reference's counts of a net, its words -/
def nNC (o : Nat → Int32) (cn cg ct : Nat) : Prop := (cn ≤ 6 ∧ cg ≤ 5 ∧ ct ≤ 24) ∧ o 0 = nI cn ∧ o 2 = nI cg ∧ o 3 = nI ct
theorem nUp {k cn cg ct : Nat} {o : Nat → Int32} (n : nNC o cn cg ct) (hk : k < cn) (pm : ∀ (χ : gM) (g : Nat), χ 269 = o → True → g < cg → fX12_isMember (nI g) (nI k) χ = some (if bt (o (48 + g)) k = true then 1 else 0)) : ∀ (m g : Nat) (χ : gM), g ≤ cg → 5 < g + m → χ 269 = o → (0 ≤ (χ 272 7).toInt ∧ (χ 272 7).toInt ≤ 60) → (∀ g', g ≤ g' → g' < 5 → χ 272 (40 + (6 * g' + k)) = 0) → (∀ g', g' < cg → bt (o (48 + g')) k = true → 3 ≤ (pvm χ g' k).toInt) → ∃ χ' mv, fX12_comesUp_l14 m (nI k) (nI g) χ = some χ' ∧ (χ' 267 22 = χ 267 22 + nI mv ∧ χ' 272 9 = χ 272 9) ∧ mv + g ≤ cg ∧ (mv : Int) + nCs χ - nCs χ' ≤ 2 * ((cg : Int) - g) := by
  obtain ⟨⟨n6, n5, n24⟩, n0, n2, n3⟩ := n
  intro m
  induction m with
  | zero => intro g χ h1 h2; exact absurd h2 (by omega)
  | succ m ih =>
    intro g χ h1 h2 h9 h7 hz hp
    rw [fX12_comesUp_l14]
    unfold fX12_groups
    rw [zBd_some, h9, n2]
    by_cases cgc : g = cg
    · subst cgc
      rw [if_pos ((nIle (by omega) (by omega)).mpr (Nat.le_refl _))]
      exact ⟨χ, 0, rfl, ⟨by rw [show nI 0 = 0 from rfl, Int32.add_zero], rfl⟩, by omega, by omega⟩
    · have g5 : g < 5 := by omega
      have k6 : k < 6 := by omega
      rw [if_neg (fun w => cgc (by have := (nIle (by omega) (by omega)).mp w; omega)), pm χ g h9 trivial (by omega), zBd_some]
      have x3 : χ 269 3 = nI ct := by rw [h9]; exact n3
      have step : ∀ (χ1 : gM) (d : Nat), nG1 g k χ χ1 → χ1 267 22 = χ 267 22 + nI d → d ≤ 1 → (∀ r, (d : Int) ≤ 2 + nCl r (χ1 272 (40 + (6 * g + k))).toInt.toNat (χ1 272 (70 + (6 * g + k))).toInt) → ∃ χ' mv, fX12_comesUp_l14 m (nI k) (nI (g + 1)) χ1 = some χ' ∧ (χ' 267 22 = χ 267 22 + nI mv ∧ χ' 272 9 = χ 272 9) ∧ mv + g ≤ cg ∧ (mv : Int) + nCs χ - nCs χ' ≤ 2 * ((cg : Int) - g) := fun χ1 d f e d1 dd => by
        obtain ⟨χ', mv, r1, r2, r3, r4⟩ := ih (g + 1) χ1 (by omega) (by omega) (f.1.trans h9) f.2.2 (fun g' hg' hg5 => by rw [f.2.1 _ (by omega) (by omega) (by omega) (by omega) (by omega)]; exact hz g' (by omega) hg5) (fun g' hg' hb => by
          have e : pvm χ1 g' k = pvm χ g' k := by unfold pvm; rw [f.wm k6 (by omega) k6, f.1]
          rw [e]; exact hp g' hg' hb)
        obtain ⟨r, cs⟩ := f.cs g5 k6
        have := dd r
        rw [hz g (Nat.le_refl _) g5, show (0 : Int32).toInt.toNat = 0 from rfl, nCl_0] at cs
        exact ⟨χ', d + mv, r1, ⟨by rw [r2.1, e, Int32.add_assoc, nI_add], r2.2.trans (f.2.1 9 (by omega) (by omega) (by omega) (by omega) (by omega))⟩, by omega, by omega⟩
      by_cases mb : bt (o (48 + g)) k = true
      · rw [if_pos mb, if_neg one_n0, mWord g5 k6 x3 n24, zBd_some]
        by_cases w5 : wv (χ 269) (χ 272 2) (χ 272 (10 + (6 * g + k))) g k = 255
        · obtain ⟨χ1, e1, hb⟩ := mHold (ξ := χ) g5 k6 h7
          rw [if_pos w5, e1, zBd_some, zLt_eq, show nI g + (1 : Int32) = nI (g + 1) from nI_1 g]
          obtain ⟨nb, mv⟩ := hb.nb
          refine step χ1 1 ⟨nb.1 269 (by decide) (by decide), fun i i0 i1 i2 i3 i4 => nb.2.2.1 i (by omega) i1 i2 i3 i4 (by omega), nb.2.2.2⟩ mv (Nat.le_refl _) (fun r => ?_)
          rw [hb.2.2.1, show (2 : Int32).toInt.toNat = 2 from rfl]
          unfold nCl tq_X tq_Y tq_Z
          repeat' split
          all_goals omega
        · obtain ⟨χ1, e1, wb⟩ := mWait (ξ := χ) g5 k6 x3 n24
          rw [if_neg w5, e1, zBd_some, zLt_eq, show nI g + (1 : Int32) = nI (g + 1) from nI_1 g]
          obtain ⟨w1, w2, w3, w4, w6⟩ := wb
          refine step χ1 0 ⟨w1 269 (by decide), fun i i0 i1 i2 i3 i4 => w2 i i2 i3 i4, by rw [w2 7 (by omega) (by omega) (by omega)]; exact h7⟩ (by rw [w1 267 (by decide), show nI 0 = 0 from rfl, Int32.add_zero]) (by omega) (fun r => ?_)
          have := nCl_b r (χ1 272 (40 + (6 * g + k))).toInt.toNat (χ1 272 (70 + (6 * g + k))).toInt
          omega
      · rw [if_neg mb, if_pos rfl, zLt_eq, show nI g + (1 : Int32) = nI (g + 1) from nI_1 g]
        obtain ⟨χ', mv, r1, r2, r3, r4⟩ := ih (g + 1) χ (by omega) (by omega) h9 h7 (fun g' a b => hz g' (by omega) b) hp
        exact ⟨χ', mv, r1, r2, by omega, by omega⟩
theorem nDn {k cn cg ct : Nat} {o : Nat → Int32} (n : nNC o cn cg ct) (hk : k < 6) : ∀ (m g : Nat) (y3 : Int32) (χ : gM), g ≤ cg → 5 < g + m → χ 269 = o → (0 ≤ (χ 272 7).toInt ∧ (χ 272 7).toInt ≤ 60) → ∃ v χ', fX12_goesDown_l19 m (nI k) 0 y3 (nI g) χ = some (v, χ') ∧ (χ' 267 22 = χ 267 22 ∧ χ' 272 9 = χ 272 9) ∧ nCs χ - nCs χ' ≤ 2 * ((cg : Int) - g) := by
  obtain ⟨⟨n6, n5, n24⟩, n0, n2, n3⟩ := n
  intro m
  induction m with
  | zero => intro g y3 χ h1 h2; exact absurd h2 (by omega)
  | succ m ih =>
    intro g y3 χ h1 h2 h9 h7
    by_cases cgc : g = cg
    · subst cgc
      rw [fX12_goesDown_l19]
      unfold fX12_groups
      rw [zBd_some, h9, n2, if_pos ((nIle (by omega) (by omega)).mpr (Nat.le_refl _))]
      exact ⟨y3, χ, rfl, ⟨rfl, rfl⟩, by omega⟩
    · have g5 : g < 5 := by omega
      rw [mDown1 g5 hk (by rw [h9]; exact n2) (by omega) n5]
      obtain ⟨t1, t2, t3, t4, t5⟩ := tri_x (g := g) (k := k) (ξ := χ)
      have t7 : 0 ≤ (tri g k χ 272 7).toInt ∧ (tri g k χ 272 7).toInt ≤ 60 := by rw [t2 7 (by omega) (by omega) (by omega)]; exact h7
      have step : ∀ (χ1 : gM) (y : Int32), nG1 g k χ χ1 → χ1 267 22 = χ 267 22 → χ1 272 (40 + (6 * g + k)) = 0 → ∃ v χ', fX12_goesDown_l19 m (nI k) 0 y (nI (g + 1)) χ1 = some (v, χ') ∧ (χ' 267 22 = χ 267 22 ∧ χ' 272 9 = χ 272 9) ∧ nCs χ - nCs χ' ≤ 2 * ((cg : Int) - g) := fun χ1 y f e hz => by
        obtain ⟨v, χ', r1, r2, r3⟩ := ih (g + 1) y χ1 (by omega) (by omega) (f.1.trans h9) f.2.2
        obtain ⟨r, cs⟩ := f.cs g5 hk
        rw [hz, show (0 : Int32).toInt.toNat = 0 from rfl, nCl_0] at cs
        have := nCl_b r (χ 272 (40 + (6 * g + k))).toInt.toNat (χ 272 (70 + (6 * g + k))).toInt
        exact ⟨v, χ', r1, ⟨r2.1.trans e, r2.2.trans (f.2.1 9 (by omega) (by omega) (by omega) (by omega) (by omega))⟩, by omega⟩
      by_cases h2 : χ 272 (40 + (6 * g + k)) = 2
      · obtain ⟨χ1, e1, l1, l2, l3⟩ := mLogs (g := nI g) (k := nI k) (w := 2) t7
        rw [if_pos h2, e1, zBd_some, if_pos rfl]
        exact step χ1 _ ⟨by rw [l1 269 (by decide), t1 269 (by decide)], fun i i0 i1 i2 i3 i4 => by rw [l2 i (by omega) i1, t2 i i2 i3 i4], l3.bd⟩ (by rw [l1 267 (by decide), t1 267 (by decide)]) (by rw [l2 _ (by omega) (by omega)]; exact t3)
      · rw [if_neg h2]
        exact step _ _ ⟨t1 269 (by decide), fun i i0 i1 i2 i3 i4 => t2 i i2 i3 i4, t7⟩ (by rw [t1 267 (by decide)]) t3
/-- words changed in all groups, of those alone that have a track -/
theorem nCs_w {ct : Nat} {ξ ξ' : gM} (h3 : ξ 269 3 = nI ct) (hc : ct ≤ 24) (h9 : ξ' 269 = ξ 269) (ht : ∀ i, 10 ≤ i → i < 40 → ξ' 272 i = ξ 272 i) (o : ∀ i, 40 ≤ i → i < 100 → ξ' 272 i = ξ 272 i) : nCs ξ - nCs ξ' ≤ (jE ct : Nat) := by
  have g1 : ∀ g, g < 5 → nCg ξ g - nCg ξ' g ≤ 4 * (lq_rw (fun k => nTk (ξ 269) ct (6 * g + k)) 6 : Nat) ∧ nCg ξ g - nCg ξ' g ≤ 11 := fun g hg => nCg_w (p := fun k => nTk (ξ 269) ct (6 * g + k)) (fun k hk e => by rw [h9, ht (10 + (6 * g + k)) (by omega) (by omega)]; exact nWv_no hk h3 hc e _ _ _) (fun k hk => ⟨o _ (by omega) (by omega), o _ (by omega) (by omega)⟩)
  have t := nTk_5 (ξ 269) ct
  have a0 := g1 0 (by decide)
  have a1 := g1 1 (by decide)
  have a2 := g1 2 (by decide)
  have a3 := g1 3 (by decide)
  have a4 := g1 4 (by decide)
  unfold nCs jE
  generalize lq_rw (fun k => nTk (ξ 269) ct (6 * 0 + k)) 6 = b0 at *
  generalize lq_rw (fun k => nTk (ξ 269) ct (6 * 1 + k)) 6 = b1 at *
  generalize lq_rw (fun k => nTk (ξ 269) ct (6 * 2 + k)) 6 = b2 at *
  generalize lq_rw (fun k => nTk (ξ 269) ct (6 * 3 + k)) 6 = b3 at *
  generalize lq_rw (fun k => nTk (ξ 269) ct (6 * 4 + k)) 6 = b4 at *
  omega
theorem nHap {s k n cn cl cg ct : Nat} {F : Prop} {c : Int32} {μ ξ : gM} (h : SR s F c μ ξ) (nc : NC μ ξ cn cl cg ct) (hn : n ≤ 20) (hk : k < n) (ev : EVK ξ k) : ∃ ξ' mv, fX12_happens (nI k) ξ = some ξ' ∧ (ξ' 267 22 = ξ 267 22 + nI mv ∧ ξ' 272 9 = ξ 272 9) ∧ mv ≤ 5 ∧ (mv : Int) + nCs ξ - nCs ξ' ≤ (jE ct : Nat) := by
  have b := nc.1
  have nn : nNC (ξ 269) cn cg ct := ⟨⟨b.1, b.2.2.1, b.2.2.2⟩, nc.2.2.1, nc.2.2.2.2.1, nc.2.2.2.2.2⟩
  have i1 : ((145 : Int32) + ((5 : Int32) * nI k)) + (1 : Int32) = nI (145 + (5 * k + 1)) := evI (j := 1)
  have i2 : ((145 : Int32) + ((5 : Int32) * nI k)) + (2 : Int32) = nI (145 + (5 * k + 2)) := evI (j := 2)
  have i3 : ((145 : Int32) + ((5 : Int32) * nI k)) + (3 : Int32) = nI (145 + (5 * k + 3)) := evI (j := 3)
  have i4 : ((145 : Int32) + ((5 : Int32) * nI k)) + (4 : Int32) = nI (145 + (5 * k + 4)) := evI (j := 4)
  have h7 : 0 ≤ (ξ 272 7).toInt ∧ (ξ 272 7).toInt ≤ 60 := h.1.2.2.2.2.1
  have j10 : 10 ≤ jE ct := by unfold jE; omega
  have z : nI 0 = 0 := rfl
  have same : ∃ ξ' mv, (some ξ : Option gM) = some ξ' ∧ (ξ' 267 22 = ξ 267 22 + nI mv ∧ ξ' 272 9 = ξ 272 9) ∧ mv ≤ 5 ∧ (mv : Int) + nCs ξ - nCs ξ' ≤ (jE ct : Nat) := ⟨ξ, 0, rfl, ⟨by rw [z, Int32.add_zero], rfl⟩, by omega, by omega⟩
  unfold fX12_happens
  rw [i1, i2, i3, i4]
  unfold zCk
  rw [if_pos (gI (by omega) (by decide)), nI_clamp (by omega), zLt_eq, if_pos (gI (by omega) (by decide)), nI_clamp (by omega), zLt_eq]
  obtain ⟨-, ev⟩ := ev
  rcases ev with ⟨e, w, hw, ew⟩ | ⟨e, w, hw, ew⟩ | e | e | e | e | ⟨e, g, w, mw, ew, eg, ev⟩
  · rw [nc.2.2.1, tN (by omega)] at hw
    rw [e, if_pos rfl, ew, mUp (by omega), zBd_some]
    by_cases u : bt (ξ 272 1) w = true
    · rw [if_pos u, if_neg one_n0]
      exact same
    · have u' : bt (ξ 272 1) w = false := Bool.eq_false_iff.mpr u
      rw [if_neg u, if_pos rfl]
      unfold fX12_comesUp
      rw [zLt_eq, z32]
      have o1 : ∀ i, i ≠ 1 → gUp ξ 272 1 (ξ 272 1 ||| ((1 : Int32) <<< (nI w &&& 31))) 272 i = ξ 272 i := fun i hi => zUp_slot _ hi
      have oo : ∀ a, a ≠ 272 → gUp ξ 272 1 (ξ 272 1 ||| ((1 : Int32) <<< (nI w &&& 31))) a = ξ a := fun a ha => zUp_ne _ ha
      generalize gUp ξ 272 1 (ξ 272 1 ||| ((1 : Int32) <<< (nI w &&& 31))) = χ at o1 oo ⊢
      obtain ⟨χ', mv, r1, r2, r3, r4⟩ := nUp (k := w) nn (show w < cn by omega) (fun χ g e _ hg => by
        have nc' : NC μ χ cn cl cg ct := by
          obtain ⟨a, b, c1, c2, c3, c4⟩ := nc
          exact ⟨a, b, by rw [e]; exact c1, by rw [e]; exact c2, by rw [e]; exact c3, by rw [e]; exact c4⟩
        have := mMemb (ξ := χ) nc' hg (show w < cn by omega)
        rw [e] at this
        exact this) 100000 0 χ (Nat.zero_le _) (by omega) (oo 269 (by decide)) (by rw [o1 7 (by decide)]; exact h7)
        (fun g' _ hg' => by
          rw [o1 _ (by omega)]
          rcases (h.2.1 g' hg').how hg' (show w < 6 by omega) with ⟨q, -⟩ | ⟨-, q, -⟩
          · exact q
          · rw [u'] at q; exact absurd q (by decide))
        (fun g' hg' hb => by
          have e : pvm χ g' w = pvm ξ g' w := by unfold pvm; rw [oo 269 (by decide), o1 2 (by decide), o1 _ (by omega)]
          rw [e]
          exact (h.1.pat (g := g') (k := w) ⟨by omega, by omega, hb⟩).2.1)
      rw [r1, zBd_some]
      have cs : nCs χ = nCs ξ := by
        have g1 : ∀ g, g < 5 → nCg χ g = nCg ξ g := fun g hg => nCg_cg (fun j hj => by rw [oo 269 (by decide), o1 2 (by decide), o1 _ (by omega), o1 _ (by omega), o1 _ (by omega)]; exact ⟨rfl, rfl, rfl⟩)
        unfold nCs
        rw [g1 0 (by decide), g1 1 (by decide), g1 2 (by decide), g1 3 (by decide), g1 4 (by decide)]
      exact ⟨χ', mv, rfl, ⟨by rw [r2.1, oo 267 (by decide)], r2.2.trans (o1 9 (by decide))⟩, by omega, by omega⟩
  · rw [nc.2.2.1, tN (by omega)] at hw
    rw [e, if_neg (show ¬ (1 : Int32) = 0 by decide), if_pos rfl, ew, mUp (by omega), zBd_some]
    by_cases u : bt (ξ 272 1) w = true
    · rw [if_pos u, if_neg one_n0]
      unfold fX12_goesDown
      rw [zLt_eq, z32]
      have o1 : ∀ i, i ≠ 1 → gUp ξ 272 1 (ξ 272 1 &&& (((1 : Int32) <<< (nI w &&& 31)) ^^^ (-1 : Int32))) 272 i = ξ 272 i := fun i hi => zUp_slot _ hi
      have oo : ∀ a, a ≠ 272 → gUp ξ 272 1 (ξ 272 1 &&& (((1 : Int32) <<< (nI w &&& 31)) ^^^ (-1 : Int32))) a = ξ a := fun a ha => zUp_ne _ ha
      generalize gUp ξ 272 1 (ξ 272 1 &&& (((1 : Int32) <<< (nI w &&& 31)) ^^^ (-1 : Int32))) = χ at o1 oo ⊢
      obtain ⟨v, χ', r1, r2, r3⟩ := nDn (k := w) nn (show w < 6 by omega) 100000 0 (nI 0) χ (Nat.zero_le _) (by omega) (oo 269 (by decide)) (by rw [o1 7 (by decide)]; exact h7)
      rw [show nI 0 = (0 : Int32) from rfl] at r1 ⊢
      rw [r1, zBp_some]
      have cs : nCs χ = nCs ξ := by
        have g1 : ∀ g, g < 5 → nCg χ g = nCg ξ g := fun g hg => nCg_cg (fun j hj => by rw [oo 269 (by decide), o1 2 (by decide), o1 _ (by omega), o1 _ (by omega), o1 _ (by omega)]; exact ⟨rfl, rfl, rfl⟩)
        unfold nCs
        rw [g1 0 (by decide), g1 1 (by decide), g1 2 (by decide), g1 3 (by decide), g1 4 (by decide)]
      exact ⟨χ', 0, rfl, ⟨by rw [r2.1, oo 267 (by decide), z, Int32.add_zero], r2.2.trans (o1 9 (by decide))⟩, by omega, by omega⟩
    · rw [if_neg u, if_pos rfl]
      exact same
  · rw [e, if_neg (show ¬ (2 : Int32) = 0 by decide), if_neg (show ¬ (2 : Int32) = 1 by decide), if_pos rfl, zLt_eq]
    have q := nCs_w (ξ := ξ) (ξ' := gUp ξ 272 2 (ξ 272 2 ||| ((1 : Int32) <<< (ξ 272 (145 + (5 * k + 2)) &&& 31)))) nc.2.2.2.2.2 b.2.2.2 (zUp_ne _ (by decide)) (fun i h1 _ => zUp_slot _ (by omega)) (fun i h1 _ => zUp_slot _ (by omega))
    exact ⟨_, 0, rfl, ⟨by rw [zUp_ne _ (by decide), z, Int32.add_zero], zUp_slot _ (by decide)⟩, by omega, by omega⟩
  · rw [e, if_neg (show ¬ (3 : Int32) = 0 by decide), if_neg (show ¬ (3 : Int32) = 1 by decide), if_neg (show ¬ (3 : Int32) = 2 by decide), if_pos rfl, zLt_eq]
    have q := nCs_w (ξ := ξ) (ξ' := gUp ξ 272 2 (ξ 272 2 &&& (((1 : Int32) <<< (ξ 272 (145 + (5 * k + 2)) &&& 31)) ^^^ (-1 : Int32)))) nc.2.2.2.2.2 b.2.2.2 (zUp_ne _ (by decide)) (fun i h1 _ => zUp_slot _ (by omega)) (fun i h1 _ => zUp_slot _ (by omega))
    exact ⟨_, 0, rfl, ⟨by rw [zUp_ne _ (by decide), z, Int32.add_zero], zUp_slot _ (by decide)⟩, by omega, by omega⟩
  · rw [e, if_neg (show ¬ (4 : Int32) = 0 by decide), if_neg (show ¬ (4 : Int32) = 1 by decide), if_neg (show ¬ (4 : Int32) = 2 by decide), if_neg (show ¬ (4 : Int32) = 3 by decide), if_pos rfl, zLt_eq]
    have q := nCs_w (ξ := ξ) (ξ' := gUp ξ 272 3 (ξ 272 (145 + (5 * k + 2)))) nc.2.2.2.2.2 b.2.2.2 (zUp_ne _ (by decide)) (fun i h1 _ => zUp_slot _ (by omega)) (fun i h1 _ => zUp_slot _ (by omega))
    exact ⟨_, 0, rfl, ⟨by rw [zUp_ne _ (by decide), z, Int32.add_zero], zUp_slot _ (by decide)⟩, by omega, by omega⟩
  · rw [e, if_neg (show ¬ (5 : Int32) = 0 by decide), if_neg (show ¬ (5 : Int32) = 1 by decide), if_neg (show ¬ (5 : Int32) = 2 by decide), if_neg (show ¬ (5 : Int32) = 3 by decide), if_neg (show ¬ (5 : Int32) = 4 by decide), if_pos rfl, zLt_eq]
    have q := nCs_w (ξ := ξ) (ξ' := gUp ξ 272 3 0) nc.2.2.2.2.2 b.2.2.2 (zUp_ne _ (by decide)) (fun i h1 _ => zUp_slot _ (by omega)) (fun i h1 _ => zUp_slot _ (by omega))
    exact ⟨_, 0, rfl, ⟨by rw [zUp_ne _ (by decide), z, Int32.add_zero], zUp_slot _ (by decide)⟩, by omega, by omega⟩
  · rw [e, if_neg (show ¬ (6 : Int32) = 0 by decide), if_neg (show ¬ (6 : Int32) = 1 by decide), if_neg (show ¬ (6 : Int32) = 2 by decide), if_neg (show ¬ (6 : Int32) = 3 by decide), if_neg (show ¬ (6 : Int32) = 4 by decide), if_neg (show ¬ (6 : Int32) = 5 by decide), if_pos (gI (by omega) (by decide)), nI_clamp (by omega), ew, eg]
    have g5 := mw.1
    have w6 := mw.2.1
    have i10 : (10 : Int32) + nI (6 * g + w) = nI (10 + (6 * g + w)) := nI_add 10 _
    rw [mOf _ g5 w6, zBd_some, if_pos (gI (by omega) (by decide)), nI_clamp (by omega), i10, if_pos (gI (by omega) (by decide)), nI_clamp (by omega), zLt_eq]
    refine ⟨_, 0, rfl, ⟨by rw [zUp_ne _ (by decide), z, Int32.add_zero], zUp_slot _ (by omega)⟩, by omega, ?_⟩
    have o1 : ∀ i, i ≠ 10 + (6 * g + w) → gUp ξ 272 (10 + (6 * g + w)) (ξ 272 (145 + (5 * k + 4))) 272 i = ξ 272 i := fun i hi => zUp_slot _ hi
    have oo : ∀ a, a ≠ 272 → gUp ξ 272 (10 + (6 * g + w)) (ξ 272 (145 + (5 * k + 4))) a = ξ a := fun a ha => zUp_ne _ ha
    generalize gUp ξ 272 (10 + (6 * g + w)) (ξ 272 (145 + (5 * k + 4))) = χ at o1 oo ⊢
    have c1 := nCs_1 (ξ := ξ) (ξ' := χ) g5 (fun g' hg' ne => nCg_cg (fun j hj => by rw [oo 269 (by decide), o1 2 (by omega), o1 _ (by omega), o1 _ (by omega), o1 _ (by omega)]; exact ⟨rfl, rfl, rfl⟩))
    have c2 := (nCg_w (g := g) (ξ := ξ) (ξ' := χ) (p := fun j => decide (j = w)) (fun j hj e => by
      have := of_decide_eq_false e
      rw [oo 269 (by decide), o1 2 (by omega), o1 _ (by omega)]) (fun j hj => ⟨o1 _ (by omega), o1 _ (by omega)⟩)).1
    have c3 := lq_rw_1 (p := fun j => decide (j = w)) (n := 6) (fun i j _ _ ei ej => (of_decide_eq_true ei).trans (of_decide_eq_true ej).symm)
    omega
