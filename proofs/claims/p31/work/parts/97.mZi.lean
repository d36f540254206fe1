/-! acts: chance -/
theorem EVK.w {k : Nat} {ξ ξ' : gM} (h : EVK ξ k) (hk : k < 20) (h9 : ξ' 269 = ξ 269) (hx : ∀ i, i = 8 ∨ 145 ≤ i → i < 490 → ξ' 272 i = ξ 272 i) : EVK ξ' k := by
  unfold EVK atI at *
  rw [h9, hx _ (by omega) (by omega), hx _ (by omega) (by omega), hx _ (by omega) (by omega), hx _ (by omega) (by omega), hx _ (by omega) (by omega)]
  exact h
theorem PLN.w {s n : Nat} {μ ξ μ' ξ' : gM} (h : PLN s n μ ξ) (h1 : μ' (s + 1) = μ (s + 1)) (h2 : μ' (s + 2) = μ (s + 2)) (h9 : ξ' 269 = ξ 269) (hx : ∀ i, i = 8 ∨ 145 ≤ i → i < 490 → ξ' 272 i = ξ 272 i) : PLN s n μ' ξ' := by
  obtain ⟨p1, p2, p3, p4, p5, p6⟩ := h
  refine ⟨p1, by rw [h1]; exact p2, by rw [hx 8 (by omega) (by omega)]; exact p3, fun i hi => by rw [h2, hx _ (by omega) (by omega)]; exact p4 i hi, fun k hk => (p5 k hk).w (by omega) h9 hx, fun k hk => ?_⟩
  have := p6 k hk
  unfold atI at *
  rw [hx _ (by omega) (by omega), hx _ (by omega) (by omega)]
  exact this
theorem SR.chance {s : Nat} {F : Prop} {c v w : Int32} {μ ξ : gM} (hs : 34 ≤ s) (h : SR s F c μ ξ) (w0 : 0 ≤ w.toInt) : SR s F c (gUp (gUp μ s 4 v) s 5 w) (gUp (gUp ξ 272 4 v) 272 9 w) := by
  generalize eμ : gUp (gUp μ s 4 v) s 5 w = μ'
  generalize eξ : gUp (gUp ξ 272 4 v) 272 9 w = ξ'
  have wm : ∀ a, a ≠ s → μ' a = μ a := fun a ha => by rw [← eμ, zUp_ne _ ha, zUp_ne _ ha]
  have wx : ∀ a, a ≠ 272 → ξ' a = ξ a := fun a ha => by rw [← eξ, zUp_ne _ ha, zUp_ne _ ha]
  have wi : ∀ i, i ≠ 4 → i ≠ 9 → ξ' 272 i = ξ 272 i := fun i h1 h2 => by rw [← eξ, zUp_slot _ h2, zUp_slot _ h1]
  have ws : ∀ i, i ≠ 4 → i ≠ 5 → μ' s i = μ s i := fun i h1 h2 => by rw [← eμ, zUp_slot _ h2, zUp_slot _ h1]
  have s4a : μ' s 4 = v := by rw [← eμ, zUp_slot _ (by decide), zUp_same]
  have s4b : ξ' 272 4 = v := by rw [← eξ, zUp_slot _ (by decide), zUp_same]
  have s4 : μ' s 4 = ξ' 272 4 := s4a.trans s4b.symm
  have s5 : μ' s 5 = ξ' 272 9 := by rw [← eμ, ← eξ, zUp_same, zUp_same]
  have x9 : ξ' 272 9 = w := by rw [← eξ, zUp_same]
  obtain ⟨⟨hn, ⟨n0, n1, n2, n3, n4, n5, n6⟩, hw, a1, a2, a3⟩, h2, h3⟩ := h
  refine ⟨⟨hn.fr (fun a h1 h2 => wm a (by omega)) (wx 269 (by decide)), ⟨by rw [ws 0 (by decide) (by decide), wi 0 (by decide) (by decide)]; exact n0, by rw [ws 1 (by decide) (by decide), wi 1 (by decide) (by decide)]; exact n1, by rw [ws 2 (by decide) (by decide), wi 2 (by decide) (by decide)]; exact n2, by rw [ws 3 (by decide) (by decide), wi 3 (by decide) (by decide)]; exact n3, s4, s5, by rw [x9]; exact w0⟩, fun g k m => ?_, by rw [wm _ (by omega)]; exact a1, by rw [wi 7 (by decide) (by decide)]; exact a2, fun f => ?_⟩, fun g hg => (h2 g hg).cg hg (fun a ha => wm a (by omega)) (wx 269 (by decide)) (fun i hi => wi i (by omega) (by omega)), fun g hg => ?_⟩
  · rw [wx 269 (by decide)] at m
    rw [wm _ (by omega), wm _ (by omega), wm _ (by omega), wx 269 (by decide), wi 2 (by decide) (by decide), wi _ (by omega) (by omega)]
    exact hw g k m
  · obtain ⟨f1, f2, f3, f4⟩ := a3 f
    exact ⟨f1.cg (wm _ (by omega)) (wm _ (by omega)) (wi 7 (by decide) (by decide)) (fun i hi => wi i (by omega) (by omega)), by rw [ws 6 (by decide) (by decide), wi 5 (by decide) (by decide)]; exact f2, by rw [ws 7 (by decide) (by decide), wi 6 (by decide) (by decide)]; exact f3, by rw [wm _ (by omega), wx 267 (by decide)]; exact f4⟩
  · have := h3 g hg
    unfold CN at *
    rw [wm _ (by omega), wm _ (by omega), wi _ (by omega) (by omega), wi _ (by omega) (by omega)]
    exact this
theorem LIVE.chance {v w : Int32} {μ ξ : gM} (h : LIVE μ ξ) (w0 : 0 ≤ w.toInt) : LIVE (gUp (gUp μ 34 4 v) 34 5 w) (gUp (gUp ξ 272 4 v) 272 9 w) := by
  obtain ⟨⟨⟨c, n, h1, h2, nx, q1, q2, q3, q4⟩, tb⟩, ⟨cg, r1, r2, r3⟩, p⟩ := h
  have s' := h1.chance (v := v) (w := w) (by decide) w0
  generalize eμ : gUp (gUp μ 34 4 v) 34 5 w = μ' at *
  generalize eξ : gUp (gUp ξ 272 4 v) 272 9 w = ξ' at *
  have wm : ∀ a, a ≠ 34 → μ' a = μ a := fun a ha => by rw [← eμ, zUp_ne _ ha, zUp_ne _ ha]
  have wx : ∀ a, a ≠ 272 → ξ' a = ξ a := fun a ha => by rw [← eξ, zUp_ne _ ha, zUp_ne _ ha]
  have wi : ∀ i, i ≠ 4 → i ≠ 9 → ξ' 272 i = ξ 272 i := fun i h1 h2 => by rw [← eξ, zUp_slot _ h2, zUp_slot _ h1]
  have ws : ∀ i, i ≠ 4 → i ≠ 5 → μ' 34 i = μ 34 i := fun i h1 h2 => by rw [← eμ, zUp_slot _ h2, zUp_slot _ h1]
  have et : tkI ξ' = tkI ξ := by unfold tkI; rw [wi 0 (by decide) (by decide)]
  have n20 := h2.1
  refine ⟨⟨⟨c, n, s', h2.w (wm 35 (by decide)) (wm 36 (by decide)) (wx 269 (by decide)) (fun i h1 h2 => wi i (by omega) (by omega)), nx, q1, by rw [ws 8 (by decide) (by decide)]; exact q2, fun k hk => ?_, fun k k1 k2 => ?_⟩, by rw [et]; exact tb⟩, ⟨cg, by rw [wm 5 (by decide)]; exact r1, r2, ?_⟩, p.fr (fun a ha => wm a (by omega)) (wx 269 (by decide)) (wx 273 (by decide)) (wx 274 (by decide)) (by rw [wx 267 (by decide)])⟩
  · have := q3 k hk
    unfold atI tkI at *
    rw [wi (145 + 5 * k) (by omega) (by omega), wi 0 (by decide) (by decide)]
    exact this
  · have := q4 k k1 k2
    unfold atI tkI at *
    rw [wi (145 + 5 * k) (by omega) (by omega), wi 0 (by decide) (by decide)]
    exact this
  · unfold RNG at *
    rw [wm 48 (by decide)]
    exact r3
theorem pChanceA {a1 a2 : Int32} {μ ξ : gM} (h : LIVE μ ξ) (t1 : μ 4 0 = 1) (t2 : ξ 267 15 = 1) : ∃ v μ' ξ', fX11_chance a1 a2 μ = some (v, μ') ∧ fX12_chance a1 a2 ξ = some (v, ξ') ∧ LIVE μ' ξ' := by
  have l0 := h.u0
  have z : (0 : Int32).toInt = 0 := rfl
  have z9 : (99 : Int32).toInt = 99 := rfl
  unfold fX11_chance fX12_chance
  rw [if_neg (by rw [t1]; decide), zLt_eq, if_neg (show ¬ gUp ξ 267 0 0 267 15 = 0 by rw [zUp_slot _ (by decide), t2]; decide), mIn32 _ (y := 0) (z := 99) rfl rfl, zBd_some]
  by_cases c1 : a1 < 0
  · have := Int32.lt_iff_toInt_lt.mp c1
    rw [if_pos c1, if_neg (show ¬ (0 ≤ a1.toInt ∧ a1.toInt ≤ 99) by omega), if_pos rfl]
    exact ⟨_, _, _, rfl, rfl, l0⟩
  · have d1 : ¬ a1.toInt < (0 : Int32).toInt := fun w => c1 (Int32.lt_iff_toInt_lt.mpr w)
    rw [if_neg c1]
    by_cases c2 : 99 < a1
    · have := Int32.lt_iff_toInt_lt.mp c2
      rw [if_pos c2, if_neg (show ¬ (0 ≤ a1.toInt ∧ a1.toInt ≤ 99) by omega), if_pos rfl]
      exact ⟨_, _, _, rfl, rfl, l0⟩
    · have d2 : ¬ (99 : Int32).toInt < a1.toInt := fun w => c2 (Int32.lt_iff_toInt_lt.mpr w)
      rw [if_neg c2, if_pos (show 0 ≤ a1.toInt ∧ a1.toInt ≤ 99 by omega), if_neg one_n0]
      by_cases c3 : 0 ≤ a2
      · have d3 := Int32.le_iff_toInt_le.mp c3
        rw [if_pos c3, if_pos c3]
        obtain ⟨μa, ξa, e1, e2, la, f1, f2, f3⟩ := l0.save
        rw [e1, zBd_some, e2, zBd_some, zLt_eq, zLt_eq, zLt_eq, zLt_eq]
        exact ⟨_, _, _, rfl, rfl, la.chance (by omega)⟩
      · rw [if_neg c3, if_neg c3]
        exact ⟨_, _, _, rfl, rfl, l0⟩
