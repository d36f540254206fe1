/-! acts: a word told -/
theorem memG {cn cl cg ct : Nat} {a1 a2 : Int32} {μ ξ : gM} (nt : NET μ ξ) (nc : NC μ ξ cn cl cg ct) : (∃ g k, mem (ξ 269) g k ∧ a1 = nI g ∧ a2 = nI k ∧ fX1_isMember 4 a1 a2 μ = some 1 ∧ fX12_isMember a1 a2 ξ = some 1) ∨ (fX1_isMember 4 a1 a2 μ = some 0 ∧ fX12_isMember a1 a2 ξ = some 0) := by
  have b5 := nc.1.2.2.1
  have b6 := nc.1.1
  have e1 : fX1_isGroup 4 a1 μ = if 0 ≤ a1.toInt ∧ a1.toInt ≤ (cg : Int) - 1 then some 1 else some 0 := by
    unfold fX1_isGroup
    rw [show μ (4 + 1) 2 = nI cg from nc.2.1.2.2.1]
    exact cIn (by omega)
  have e2 : fX12_isGroup a1 ξ = some (if 0 ≤ a1.toInt ∧ a1.toInt ≤ (cg : Int) - 1 then 1 else 0) := by
    unfold fX12_isGroup fX12_groups
    rw [zBd_some, nc.2.2.2.2.1, mIn32 _ (y := 0) rfl (m1_64 (by omega)), zBd_some]
    unfold zCk
    by_cases c : 0 ≤ a1.toInt ∧ a1.toInt ≤ (cg : Int) - 1
    · rw [if_pos c, if_pos (by decide)]
    · rw [if_neg c, if_pos (by decide)]
  by_cases c : 0 ≤ a1.toInt ∧ a1.toInt ≤ (cg : Int) - 1
  · by_cases c' : 0 ≤ a2.toInt ∧ a2.toInt ≤ (cn : Int) - 1
    · obtain ⟨g, hg⟩ : ∃ g : Nat, a1.toInt = g := ⟨a1.toInt.toNat, by omega⟩
      obtain ⟨k, hk⟩ : ∃ k : Nat, a2.toInt = k := ⟨a2.toInt.toNat, by omega⟩
      have eg : a1 = nI g := nI_of' hg
      have ek : a2 = nI k := nI_of' hk
      have gc : g < cg := by omega
      have kc : k < cn := by omega
      subst eg ek
      have em : fX1_isMember 4 (nI g) (nI k) μ = fX12_isOf (ξ 269 (48 + g)) (nI k) ξ := cMem (nt.nt (t := 0) (by decide)) (nt.nt (t := 2) (by decide)) (nt.m11 (by omega)) (by rw [nc.2.2.1, tN (by omega)]; omega) (by rw [nc.2.2.2.2.1, tN (by omega)]; omega) (by omega)
      rw [em, mIsOf (by omega), mMemb nc gc kc]
      by_cases cb : bt (ξ 269 (48 + g)) k = true
      · rw [if_pos cb]
        exact Or.inl ⟨g, k, ⟨by omega, by omega, cb⟩, rfl, rfl, rfl, rfl⟩
      · rw [if_neg cb]
        exact Or.inr ⟨rfl, rfl⟩
    · refine Or.inr ⟨?_, ?_⟩
      · unfold fX1_isMember
        rw [e1, if_pos c, zBd_some, if_neg one_n0, show μ (4 + 1) 0 = nI cn from nc.2.1.1, cIn (by omega), if_neg c']
      · unfold fX12_isMember fX12_isGate fX12_gates
        rw [e2, if_pos c, zBd_some, if_neg one_n0, zBd_some, nc.2.2.1, mIn32 _ (y := 0) rfl (m1_64 (by omega)), zBd_some, if_neg c']
        unfold zCk
        rw [if_pos (by decide), zBd_some, if_pos rfl]
  · refine Or.inr ⟨?_, ?_⟩
    · unfold fX1_isMember
      rw [e1, if_neg c, zBd_some, if_pos rfl]
    · unfold fX12_isMember
      rw [e2, if_neg c, zBd_some, if_pos rfl]
theorem LIVE.mw {g k : Nat} {μ ξ : gM} (h : LIVE μ ξ) (m : mem (ξ 269) g k) : μ 43 (6 * g + k) = ξ 272 (10 + (6 * g + k)) := by
  obtain ⟨⟨⟨c, n, h1, -⟩, -⟩, -⟩ := h
  exact (h1.1.2.2.1 g k m).1
theorem LIVE.net {μ ξ : gM} (h : LIVE μ ξ) : NET μ ξ := by
  obtain ⟨⟨⟨c, n, h1, -⟩, -⟩, -⟩ := h
  exact h1.1.1
theorem pWordA {a1 a2 a3 : Int32} {μ ξ : gM} (h : LIVE μ ξ) : ∃ v μ' ξ', fX11_word a1 a2 a3 μ = some (v, μ') ∧ fX12_word a1 a2 a3 ξ = some (v, ξ') ∧ LIVE μ' ξ' := by
  have l0 := h.u0
  obtain ⟨cn, cl, cg, ct, nc⟩ := l0.nc
  have z1 : (1 : Int32).toInt = 1 := rfl
  have z2 : (255 : Int32).toInt = 255 := rfl
  unfold fX11_word fX12_word
  rw [zLt_eq]
  rcases memG (a1 := a1) (a2 := a2) l0.net nc with ⟨g, k, m, rfl, rfl, g1, g2⟩ | ⟨g1, g2⟩
  · have hg := m.1
    have hk := m.2.1
    rw [g1, g2, zBd_some, zBd_some, if_neg one_n0, if_neg one_n0, mIn32 _ (y := 1) (z := 255) rfl rfl, zBd_some]
    by_cases c1 : a3 < 1
    · have := Int32.lt_iff_toInt_lt.mp c1
      rw [if_pos c1, if_neg (show ¬ (1 ≤ a3.toInt ∧ a3.toInt ≤ 255) by omega), if_pos rfl]
      exact ⟨_, _, _, rfl, rfl, l0⟩
    · have d1 : ¬ a3.toInt < (1 : Int32).toInt := fun w => c1 (Int32.lt_iff_toInt_lt.mpr w)
      rw [if_neg c1]
      by_cases c2 : a3 ≤ 255
      · have d2 := Int32.le_iff_toInt_le.mp c2
        rw [if_pos c2, if_pos (show 1 ≤ a3.toInt ∧ a3.toInt ≤ 255 by omega), if_neg one_n0]
        obtain ⟨μa, ξa, e1, e2, la, f1, f2, f3⟩ := l0.save
        obtain ⟨⟨c, n, h1, h2, nx, h3⟩, -⟩ := id la.1
        have ma : mem (ξa 269) g k := by rw [f2 269 (by decide) (by decide)]; exact m
        obtain ⟨μ', e3, s, ⟨t, r, -, f8, f0⟩, -⟩ := h1.tell (v := a3) (by decide) ma ⟨by omega, by omega⟩
        have i1 : nI g * (6 : Int32) + nI k = nI (6 * g + k) := o6f hg hk
        unfold fX12_of
        rw [e1, zBd_some, e2, zBd_some, zBd_some, i1, show (6 : Int32) * nI g + nI k = nI (6 * g + k) from of6 hg hk, show (10 : Int32) + nI (6 * g + k) = nI (10 + (6 * g + k)) from nI_add 10 _]
        unfold zCk
        rw [if_pos (show gIn (nI (6 * g + k)) 30 = true from gI (by omega) (by decide)), if_pos (show gIn (nI (10 + (6 * g + k))) 490 = true from gI (by omega) (by decide)), zLt_eq, zLt_eq, zBd_some, show (10 : Int32) + nI (6 * g + k) = nI (10 + (6 * g + k)) from nI_add 10 _, if_pos (show gIn (nI (10 + (6 * g + k))) 490 = true from gI (by omega) (by decide)), zLt_eq, nI_clamp (by omega), nI_clamp (by omega), e3, zBd_some, la.mw ma]
        exact ⟨_, _, _, rfl, rfl, la.act (c := c) h2 h3 s t r f8 f0⟩
      · have d2 : ¬ a3.toInt ≤ (255 : Int32).toInt := fun w => c2 (Int32.le_iff_toInt_le.mpr w)
        rw [if_neg c2, if_neg (show ¬ (1 ≤ a3.toInt ∧ a3.toInt ≤ 255) by omega), if_pos rfl]
        exact ⟨_, _, _, rfl, rfl, l0⟩
  · rw [g1, g2, zBd_some, zBd_some, if_pos rfl, if_pos rfl]
    exact ⟨_, _, _, rfl, rfl, l0⟩
