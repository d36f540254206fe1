/-! acts undone, images -/
theorem LIVE.rng {μ ξ μ' : gM} (h : LIVE μ ξ) (h5 : μ' 5 = μ 5) (h48 : μ' 48 = μ 48) : ∃ cg, μ' 5 2 = nI cg ∧ cg ≤ 5 ∧ RNG 34 cg μ' := by
  obtain ⟨-, ⟨cg, r1, r2, r3⟩, -⟩ := h
  refine ⟨cg, by rw [h5]; exact r1, r2, ?_⟩
  unfold RNG at *
  rw [h48]
  exact r3
theorem pUndoA {μ ξ : gM} (h : LIVE μ ξ) (t1 : μ 4 0 = 1) (t2 : ξ 267 15 = 1) : ∃ v μ' ξ', fX11_undo μ = some (v, μ') ∧ fX12_undo ξ = some (v, ξ') ∧ LIVE μ' ξ' := by
  have l0 := h.u0
  unfold fX11_undo fX12_undo
  rw [if_neg (by rw [t1]; decide), zLt_eq, if_neg (show ¬ gUp ξ 267 0 0 267 15 = 0 by rw [zUp_slot _ (by decide), t2]; decide)]
  rcases pUndo l0.2.2 with ⟨c1, c2⟩ | ⟨c1, c2, μ', ξ', e1, e2, gd, ps, e4, om, ox, oi⟩
  · have er : fX4_restore 34 μ = some (0, μ) := by
      unfold fX4_restore
      rw [if_pos c1]
    rw [er, zBp_some, if_pos rfl, if_pos c2]
    exact ⟨_, _, _, rfl, rfl, l0⟩
  · rw [e1, zBp_some, if_neg one_n0, if_neg c2, zLt_eq, e2, zBd_some, e4]
    exact ⟨_, _, _, rfl, rfl, gd, l0.rng (om 5 (by omega)) (om 48 (by omega)), ps⟩
theorem imG {a1 : Int32} : (∃ k : Nat, k < 2 ∧ a1 = nI k) ∨ (a1 < 0 ∨ ¬ a1 < 2) ∧ ¬ (0 ≤ a1.toInt ∧ a1.toInt ≤ 1) := by
  have z : (0 : Int32).toInt = 0 := rfl
  have z2 : (2 : Int32).toInt = 2 := rfl
  by_cases c : 0 ≤ a1.toInt ∧ a1.toInt ≤ 1
  · exact Or.inl ⟨a1.toInt.toNat, by omega, nI_of' (by omega)⟩
  · refine Or.inr ⟨?_, c⟩
    by_cases d : a1 < 0
    · exact Or.inl d
    · have d' : ¬ a1.toInt < (0 : Int32).toInt := fun w => d (Int32.lt_iff_toInt_lt.mpr w)
      exact Or.inr (fun w => by have := Int32.lt_iff_toInt_lt.mp w; omega)
theorem k2 : ∀ k : Nat, k < 2 → ¬ nI k < 0 ∧ nI k < 2 ∧ (0 ≤ (nI k).toInt ∧ (nI k).toInt ≤ 1) ∧ (12 : Int32) + nI k = nI (12 + k) := by decide +kernel
theorem pKeepA {a1 : Int32} {μ ξ : gM} (h : LIVE μ ξ) (t1 : μ 4 0 = 1) (t2 : ξ 267 15 = 1) : ∃ v μ' ξ', fX11_keep a1 μ = some (v, μ') ∧ fX12_keep a1 ξ = some (v, ξ') ∧ LIVE μ' ξ' := by
  have l0 := h.u0
  unfold fX11_keep fX12_keep
  rw [if_neg (by rw [t1]; decide), zLt_eq, mIn32 _ (y := 0) (z := 1) rfl rfl, zBd_some]
  rcases imG (a1 := a1) with ⟨k, hk, rfl⟩ | ⟨c, d⟩
  · obtain ⟨w1, w2, w3, w4⟩ := k2 k hk
    rw [if_neg w1, if_pos w2, if_pos w3, if_neg one_n0, if_neg (show ¬ gUp ξ 267 0 0 267 15 = 0 by rw [zUp_slot _ (by decide), t2]; decide), w4]
    obtain ⟨μ', ζ, e1, e2, ps, om, ox⟩ := pKeepI hk l0.1 l0.2.2
    rw [e1, zBd_some, e2, zBd_some]
    unfold zCk
    rw [if_pos (gI hk (by decide)), zLt_eq, nI_clamp (by omega)]
    have et : μ' 34 0 = gUp ζ 274 k 1 272 0 := by rw [om 34 (by decide), zUp_ne _ (by decide), ox 272 (by decide)]; exact l0.tick
    rw [et]
    refine ⟨_, _, _, rfl, rfl, ?_, l0.rng (om 5 (by decide)) (om 48 (by decide)), ps⟩
    exact l0.1.cp (fun a h1 h2 => om a (by omega)) (by rw [zUp_ne _ (by decide), ox 269 (by decide)]) (fun j i hj => by rw [om _ (by unfold INR at hj; omega)]) (fun i _ => by rw [zUp_ne _ (by decide), ox 272 (by decide)])
  · have ec : (if a1 < 0 then some ((-2 : Int32), μ) else (if a1 < 2 then zBd (fX4_keepImage 34 a1 μ) (fun μ1 => some (μ1 34 0, μ1)) else some (-2, μ))) = some (-2, μ) := by
      rcases c with c | c
      · rw [if_pos c]
      · rw [if_neg c]
        split <;> rfl
    rw [ec, if_neg d, if_pos rfl]
    exact ⟨_, _, _, rfl, rfl, l0⟩
theorem pBackA {a1 : Int32} {μ ξ : gM} (h : LIVE μ ξ) (t1 : μ 4 0 = 1) (t2 : ξ 267 15 = 1) : ∃ v μ' ξ', fX11_back a1 μ = some (v, μ') ∧ fX12_back a1 ξ = some (v, ξ') ∧ LIVE μ' ξ' := by
  have l0 := h.u0
  unfold fX11_back fX12_back
  rw [if_neg (by rw [t1]; decide), zLt_eq, mIn32 _ (y := 0) (z := 1) rfl rfl, zBd_some]
  rcases imG (a1 := a1) with ⟨k, hk, rfl⟩ | ⟨c, d⟩
  · obtain ⟨w1, w2, w3, w4⟩ := k2 k hk
    rw [if_neg w1, if_pos w2, if_pos w3, if_neg one_n0, if_neg (show ¬ gUp ξ 267 0 0 267 15 = 0 by rw [zUp_slot _ (by decide), t2]; decide), w4]
    unfold zCk
    rw [if_pos (gI hk (by decide)), nI_clamp (by omega)]
    rcases pBackI hk l0.2.2 with ⟨e1, e0⟩ | ⟨e0, μ', ζ, e1, e2, gd, ps, om, ox⟩
    · rw [e1, zBp_some, if_pos rfl, if_pos e0]
      exact ⟨_, _, _, rfl, rfl, l0⟩
    · rw [e1, zBp_some, if_neg one_n0, if_neg e0, e2, zBd_some, zLt_eq]
      have lv : LIVE μ' (gUp ζ 267 20 0) := ⟨gd, l0.rng (om 5 (by omega)) (om 48 (by omega)), ps⟩
      rw [lv.tick]
      exact ⟨_, _, _, rfl, rfl, lv⟩
  · have ec : (if a1 < 0 then some ((-2 : Int32), μ) else (if a1 < 2 then zBp (fX4_takeImage 34 a1 μ) (fun x1 μ2 => (if x1 = 0 then some (-3, μ2) else some (μ2 34 0, μ2))) else some (-2, μ))) = some (-2, μ) := by
      rcases c with c | c
      · rw [if_pos c]
      · rw [if_neg c]
        split <;> rfl
    rw [ec, if_neg d, if_pos rfl]
    exact ⟨_, _, _, rfl, rfl, l0⟩
