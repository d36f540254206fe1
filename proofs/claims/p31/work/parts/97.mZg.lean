/-! acts: gates up and down -/
theorem gateG {cn cl cg ct : Nat} {a1 : Int32} {μ ξ : gM} (nc : NC μ ξ cn cl cg ct) : (∃ k, k < cn ∧ a1 = nI k ∧ fX1_isThere 4 0 a1 μ = some 1 ∧ fX12_isGate a1 ξ = some 1) ∨ (fX1_isThere 4 0 a1 μ = some 0 ∧ fX12_isGate a1 ξ = some 0) := by
  have b := nc.1.1
  have e1 : fX1_isThere 4 0 a1 μ = if 0 ≤ a1.toInt ∧ a1.toInt ≤ (cn : Int) - 1 then some 1 else some 0 := by
    unfold fX1_isThere
    rw [if_neg (by decide), if_neg (by decide)]
    unfold zCk
    rw [if_pos (show gIn (0 : Int32) 3 = true by decide), show ((0 : Int32)).toNatClampNeg = 0 from rfl, nc.2.1.1]
    exact cIn (by omega)
  have e2 : fX12_isGate a1 ξ = some (if 0 ≤ a1.toInt ∧ a1.toInt ≤ (cn : Int) - 1 then 1 else 0) := by
    unfold fX12_isGate fX12_gates
    rw [zBd_some, nc.2.2.1, mIn32 _ (y := 0) rfl (m1_64 (by omega)), zBd_some]
    unfold zCk
    by_cases c : 0 ≤ a1.toInt ∧ a1.toInt ≤ (cn : Int) - 1
    · rw [if_pos c, if_pos (by decide)]
    · rw [if_neg c, if_pos (by decide)]
  rw [e1, e2]
  by_cases c : 0 ≤ a1.toInt ∧ a1.toInt ≤ (cn : Int) - 1
  · rw [if_pos c, if_pos c]
    exact Or.inl ⟨a1.toInt.toNat, by omega, nI_of' (by omega), rfl, rfl⟩
  · rw [if_neg c, if_neg c]
    exact Or.inr ⟨rfl, rfl⟩
theorem LIVE.u0 {μ ξ : gM} (h : LIVE μ ξ) : LIVE μ (gUp ξ 267 0 0) := h.mv (fun _ _ => rfl) (zUp_ne _ (by decide)) (zUp_ne _ (by decide)) (zUp_ne _ (by decide)) (zUp_ne _ (by decide)) (zUp_slot _ (by decide))
theorem LIVE.nc {μ ξ : gM} (h : LIVE μ ξ) : ∃ cn cl cg ct, NC μ ξ cn cl cg ct := by
  obtain ⟨⟨⟨c, n, h1, -⟩, -⟩, -⟩ := h
  exact h1.1.1.nc
theorem AF.rng {cg : Nat} {μ μ' : gM} (h : RNG 34 cg μ) (a : AF 34 μ μ') : RNG 34 cg μ' := h.tf a.tf
/-- what an act on the members leaves -/
theorem LIVE.act {c c' : Int32} {n nx : Nat} {μ ξ μ' ξ' : gM} (h : LIVE μ ξ) (h2 : PLN 34 n μ ξ) (h3 : NX 34 n nx (tkI ξ) μ ξ) (s : SR 34 True c' μ' ξ') (t : TF 34 μ μ') (r : RF ξ ξ') (h8 : μ' 34 8 = μ 34 8) (h0 : ξ' 272 0 = ξ 272 0) : LIVE μ' ξ' := by
  obtain ⟨⟨-, tb⟩, ⟨cg, r1, r2, r3⟩, p⟩ := h
  have et : tkI ξ' = tkI ξ := by unfold tkI; rw [h0]
  have n20 := h2.1
  refine ⟨⟨⟨c', n, s, h2.mv t r, nx, h3.1, by rw [h8]; exact h3.2.1, fun k hk => ?_, fun k k1 k2 => ?_⟩, by rw [et]; exact tb⟩, ⟨cg, by rw [t.1 5 (by decide)]; exact r1, r2, r3.tf t⟩, p.tf t r⟩
  · rw [et, atI.mv r (by have := h3.1; omega)]
    exact h3.2.2.1 k hk
  · rw [et, atI.mv r (by omega)]
    exact h3.2.2.2 k k1 k2
theorem pUpA {a1 : Int32} {μ ξ : gM} (h : LIVE μ ξ) : ∃ v μ' ξ', fX11_up a1 μ = some (v, μ') ∧ fX12_up a1 ξ = some (v, ξ') ∧ LIVE μ' ξ' := by
  have l0 := h.u0
  obtain ⟨cn, cl, cg, ct, nc⟩ := l0.nc
  have b6 := nc.1.1
  unfold fX11_up fX12_up
  rw [zLt_eq]
  rcases gateG (a1 := a1) nc with ⟨k, kc, rfl, g1, g2⟩ | ⟨g1, g2⟩
  · rw [g1, g2, zBd_some, zBd_some, if_neg one_n0, if_neg one_n0]
    have eu : μ 34 1 = gUp ξ 267 0 0 272 1 := by
      obtain ⟨⟨⟨c, n, h1, -⟩, -⟩, -⟩ := l0
      exact h1.1.2.1.2.1
    unfold fX9_isUp fX12_isUp fX12_isOf
    rw [eu]
    by_cases cb : ((gUp ξ 267 0 0 272 1 >>> (nI k &&& 31)) &&& (1 : Int32)) = (1 : Int32)
    · rw [if_pos cb, zBd_some, zBd_some]
      rw [if_neg one_n0]
      unfold zCk
      rw [if_pos (show ((1 : Int32) == 0 || (1 : Int32) == 1) = true by decide), zBd_some, if_neg one_n0]
      exact ⟨_, _, _, rfl, rfl, l0⟩
    · rw [if_neg cb, zBd_some, zBd_some]
      rw [if_pos (show (0 : Int32) = 0 from rfl)]
      unfold zCk
      rw [if_pos (show ((0 : Int32) == 0 || (0 : Int32) == 1) = true by decide), zBd_some, if_pos (show (0 : Int32) = 0 from rfl)]
      have dn : bt (gUp ξ 267 0 0 272 1) k = false := Bool.eq_false_iff.mpr (fun w => cb ((bit1_iff (by omega)).mpr w))
      obtain ⟨μa, ξa, e1, e2, la, f1, f2, f3⟩ := l0.save
      obtain ⟨cn', cl', cg', ct', nc'⟩ := la.nc
      have ecn : cn' = cn := nI_inj (by have := nc'.1.1; omega) (by omega) (nc'.2.2.1.symm.trans ((congrFun (f2 269 (by decide) (by decide)) 0).trans nc.2.2.1))
      subst ecn
      obtain ⟨⟨c, n, h1, h2, nx, h3⟩, -⟩ := id la.1
      obtain ⟨μ', ξ', e3, e4, s, a, r, -⟩ := pRaise (M := (1 : Int32) <<< (nI k &&& 31)) (by decide) h1 nc' kc (by rw [f2 272 (by decide) (by decide)]; exact dn) rfl
      rw [e1, zBd_some, e3, zBd_some, e2, zBd_some, e4, zBd_some]
      exact ⟨_, _, _, rfl, rfl, la.act (c := c) h2 h3 s a.tf r.rf' (a.2.2 8 (by decide) (by decide) (by decide) (by decide)) (r.2.2 0 (by decide))⟩
  · rw [g1, g2, zBd_some, zBd_some, if_pos rfl, if_pos rfl]
    exact ⟨_, _, _, rfl, rfl, l0⟩
theorem pDownA {a1 a2 : Int32} {μ ξ : gM} (h : LIVE μ ξ) (h2' : a2 = 0 ∨ a2 = 1) : ∃ v μ' ξ', fX11_down a1 a2 μ = some (v, μ') ∧ fX12_down a1 a2 ξ = some (v, ξ') ∧ LIVE μ' ξ' := by
  have l0 := h.u0
  obtain ⟨cn, cl, cg, ct, nc⟩ := l0.nc
  have b6 := nc.1.1
  unfold fX11_down fX12_down
  rw [zLt_eq]
  rcases gateG (a1 := a1) nc with ⟨k, kc, rfl, g1, g2⟩ | ⟨g1, g2⟩
  · rw [g1, g2, zBd_some, zBd_some, if_neg one_n0, if_neg one_n0]
    have eu : μ 34 1 = gUp ξ 267 0 0 272 1 := by
      obtain ⟨⟨⟨c, n, h1, -⟩, -⟩, -⟩ := l0
      exact h1.1.2.1.2.1
    unfold fX9_isUp fX12_isUp fX12_isOf
    rw [eu]
    by_cases cb : ((gUp ξ 267 0 0 272 1 >>> (nI k &&& 31)) &&& (1 : Int32)) = (1 : Int32)
    · rw [if_pos cb, zBd_some, zBd_some]
      rw [if_neg one_n0]
      unfold zCk
      rw [if_pos (show ((1 : Int32) == 0 || (1 : Int32) == 1) = true by decide), zBd_some, if_neg one_n0]
      obtain ⟨μa, ξa, e1, e2, la, f1, f2, f3⟩ := l0.save
      obtain ⟨cn', cl', cg', ct', nc'⟩ := la.nc
      have ecn : cn' = cn := nI_inj (by have := nc'.1.1; omega) (by omega) (nc'.2.2.1.symm.trans ((congrFun (f2 269 (by decide) (by decide)) 0).trans nc.2.2.1))
      subst ecn
      obtain ⟨⟨c, n, h1, h2, nx, h3⟩, -⟩ := id la.1
      obtain ⟨v, μ', ξ', e3, e4, s, a, r, -⟩ := pLower (by decide) h1 nc' kc h2'
      rw [e1, zBd_some, e3, zBp_some, e2, zBd_some, e4, zBp_some]
      exact ⟨_, _, _, rfl, rfl, la.act (c := c) h2 h3 s a.tf r.rf' (a.2.2 8 (by decide) (by decide) (by decide) (by decide)) (r.2.2 0 (by decide))⟩
    · rw [if_neg cb, zBd_some, zBd_some]
      rw [if_pos (show (0 : Int32) = 0 from rfl)]
      unfold zCk
      rw [if_pos (show ((0 : Int32) == 0 || (0 : Int32) == 1) = true by decide), zBd_some, if_pos (show (0 : Int32) = 0 from rfl)]
      exact ⟨_, _, _, rfl, rfl, l0⟩
  · rw [g1, g2, zBd_some, zBd_some, if_pos rfl, if_pos rfl]
    exact ⟨_, _, _, rfl, rfl, l0⟩
