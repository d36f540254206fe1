/-! acts: links cut, gates split -/
theorem linkG {cn cl cg ct : Nat} {a1 : Int32} {μ ξ : gM} (nc : NC μ ξ cn cl cg ct) : (∃ k, k < cl ∧ a1 = nI k ∧ fX1_isThere 4 1 a1 μ = some 1 ∧ fX12_isIn (a1).toInt64 (0 : Int64) (((ξ 269 1) - (1 : Int32))).toInt64 ξ = some 1) ∨ (fX1_isThere 4 1 a1 μ = some 0 ∧ fX12_isIn (a1).toInt64 (0 : Int64) (((ξ 269 1) - (1 : Int32))).toInt64 ξ = some 0) := by
  have b := nc.1.2.1
  have e1 : fX1_isThere 4 1 a1 μ = if 0 ≤ a1.toInt ∧ a1.toInt ≤ (cl : Int) - 1 then some 1 else some 0 := by
    unfold fX1_isThere
    rw [if_neg (by decide), if_neg (by decide)]
    unfold zCk
    rw [if_pos (show gIn (1 : Int32) 3 = true by decide), show ((1 : Int32)).toNatClampNeg = 1 from rfl, nc.2.1.2.1]
    exact cIn (by omega)
  rw [e1, nc.2.2.2.1, mIn32 _ (y := 0) rfl (m1_64 (by omega))]
  by_cases c : 0 ≤ a1.toInt ∧ a1.toInt ≤ (cl : Int) - 1
  · rw [if_pos c, if_pos c]
    exact Or.inl ⟨a1.toInt.toNat, by omega, nI_of' (by omega), rfl, rfl⟩
  · rw [if_neg c, if_neg c]
    exact Or.inr ⟨rfl, rfl⟩
theorem LIVE.nu {μ ξ : gM} (h : LIVE μ ξ) : NU 34 μ ξ := by
  obtain ⟨⟨⟨c, n, h1, -⟩, -⟩, -⟩ := h
  exact h1.1.2.1
theorem pCutA {a1 a2 : Int32} {μ ξ : gM} (h : LIVE μ ξ) : ∃ v μ' ξ', fX11_cut a1 a2 μ = some (v, μ') ∧ fX12_cut a1 a2 ξ = some (v, ξ') ∧ LIVE μ' ξ' := by
  have l0 := h.u0
  obtain ⟨cn, cl, cg, ct, nc⟩ := l0.nc
  unfold fX11_cut fX12_cut
  rw [zLt_eq]
  rcases linkG (a1 := a1) nc with ⟨k, kc, rfl, g1, g2⟩ | ⟨g1, g2⟩
  · rw [g1, g2, zBd_some, zBd_some, if_neg one_n0, if_neg one_n0]
    have eu : μ 34 2 = gUp ξ 267 0 0 272 2 := l0.nu.2.2.1
    obtain ⟨x, ex1, ex2⟩ : ∃ x, fX9_isCut 34 (nI k) μ = some x ∧ fX12_isOf (gUp ξ 267 0 0 272 2) (nI k) (gUp ξ 267 0 0) = some x := by
      unfold fX9_isCut fX12_isOf
      rw [eu]
      split
      · exact ⟨1, rfl, rfl⟩
      · exact ⟨0, rfl, rfl⟩
    rw [ex1, ex2, zBd_some, zBd_some]
    by_cases ca : a2 = x
    · rw [if_pos ca, if_pos ca.symm]
      exact ⟨_, _, _, rfl, rfl, l0⟩
    · rw [if_neg ca, if_neg (fun w => ca w.symm)]
      obtain ⟨μa, ξa, e1, e2, la, f1, f2, f3⟩ := l0.save
      obtain ⟨⟨c, n, h1, h2, nx, h3⟩, -⟩ := id la.1
      have ea : μa 34 2 = ξa 272 2 := la.nu.2.2.1
      rw [e1, zBd_some, e2, zBd_some, zLt_eq, ea]
      obtain ⟨μ', e3, s, ⟨t, r, -, f8, f0⟩, -⟩ := h1.cuts (v := ξa 272 2 ^^^ ((1 : Int32) <<< (nI k &&& 31))) (by decide)
      rw [e3, zBd_some]
      exact ⟨_, _, _, rfl, rfl, la.act (c := c) h2 h3 s t r f8 f0⟩
  · rw [g1, g2, zBd_some, zBd_some, if_pos rfl, if_pos rfl]
    exact ⟨_, _, _, rfl, rfl, l0⟩
theorem shl6 : ∀ c : Nat, c ≤ 6 → ((1 : Int32) <<< (nI c &&& 31)).toInt = ((2 ^ c : Nat) : Int) ∧ ((((1 : Int32) <<< (nI c &&& 31)) - (1 : Int32)).toInt64).toInt = ((2 ^ c : Nat) : Int) - 1 := by decide +kernel
theorem pSplitA {a1 : Int32} {μ ξ : gM} (h : LIVE μ ξ) (t1 : μ 4 0 = 1) (t2 : ξ 267 15 = 1) : ∃ v μ' ξ', fX11_split a1 μ = some (v, μ') ∧ fX12_split a1 ξ = some (v, ξ') ∧ LIVE μ' ξ' := by
  have l0 := h.u0
  obtain ⟨cn, cl, cg, ct, nc⟩ := l0.nc
  obtain ⟨w1, w2⟩ := shl6 cn nc.1.1
  have z : (0 : Int32).toInt = 0 := rfl
  unfold fX11_split fX12_split fX1_areGates fX12_gates
  rw [if_neg (by rw [t1]; decide), zLt_eq, if_neg (show ¬ gUp ξ 267 0 0 267 15 = 0 by rw [zUp_slot _ (by decide), t2]; decide), zBd_some, nc.2.2.1, mIn32 _ (y := 0) rfl w2, zBd_some, show μ (4 + 1) 0 = nI cn from nc.2.1.1]
  have ec : (if a1 < 0 then some (0 : Int32) else (if ((1 : Int32) <<< (nI cn &&& 31)) ≤ a1 then some 0 else some 1)) = some (if 0 ≤ a1.toInt ∧ a1.toInt ≤ ((2 ^ cn : Nat) : Int) - 1 then 1 else 0) := by
    by_cases c1 : a1 < 0
    · have := Int32.lt_iff_toInt_lt.mp c1
      rw [if_pos c1, if_neg (by omega)]
    · have d1 : ¬ a1.toInt < (0 : Int32).toInt := fun w => c1 (Int32.lt_iff_toInt_lt.mpr w)
      rw [if_neg c1]
      by_cases c2 : ((1 : Int32) <<< (nI cn &&& 31)) ≤ a1
      · have := Int32.le_iff_toInt_le.mp c2
        rw [if_pos c2, if_neg (by omega)]
      · have d2 : ¬ ((1 : Int32) <<< (nI cn &&& 31)).toInt ≤ a1.toInt := fun w => c2 (Int32.le_iff_toInt_le.mpr w)
        rw [if_neg c2, if_pos (by omega)]
  rw [ec, zBd_some]
  by_cases c : 0 ≤ a1.toInt ∧ a1.toInt ≤ ((2 ^ cn : Nat) : Int) - 1
  · rw [if_pos c, if_neg one_n0, if_neg one_n0]
    have eu : μ 34 3 = gUp ξ 267 0 0 272 3 := l0.nu.2.2.2.1
    rw [eu]
    by_cases ca : a1 = gUp ξ 267 0 0 272 3
    · rw [if_pos ca, if_pos ca.symm]
      exact ⟨_, _, _, rfl, rfl, l0⟩
    · rw [if_neg ca, if_neg (fun w => ca w.symm)]
      obtain ⟨μa, ξa, e1, e2, la, f1, f2, f3⟩ := l0.save
      obtain ⟨⟨c, n, h1, h2, nx, h3⟩, -⟩ := id la.1
      rw [e1, zBd_some, e2, zBd_some, zLt_eq, zLt_eq]
      obtain ⟨s, t, r, -, f8, f0⟩ := h1.part (v := a1) (by decide)
      exact ⟨_, _, _, rfl, rfl, la.act (c := c) h2 h3 s t r f8 f0⟩
  · rw [if_neg c, if_pos rfl, if_pos rfl]
    exact ⟨_, _, _, rfl, rfl, l0⟩
