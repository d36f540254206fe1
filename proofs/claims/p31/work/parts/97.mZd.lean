/-! what is behind: acts and images -/
def actS (idx t : Nat) : Nat := 52 + 14 * ((idx + 12 - t) % 12)
def PAST (μ ξ : gM) : Prop := ∃ cnt idx : Nat, cnt ≤ 12 ∧ idx < 12 ∧ μ 49 2 = nI cnt ∧ μ 49 3 = nI idx ∧ ξ 267 20 = nI cnt ∧ (∀ t, t < cnt → SVD (actS idx t) (cnt - 1 - t) μ ξ) ∧ ∀ k, k < 2 → (bt (μ 49 4) k = true ∧ ξ 274 k = 1 ∧ SVD (220 + 14 * k) (12 + k) μ ξ) ∨ (bt (μ 49 4) k = false ∧ ξ 274 k = 0)
theorem sKeep52 {b : Nat} {ξ : gM} (h : ξ 267 20 = nI b) (hb : b ≤ 11) : ∃ ξ', fX12_keepsAct_n52 ξ = some ξ' ∧ (∀ a, a ≠ 273 → a ≠ 267 → ξ' a = ξ a) ∧ (∀ i, i ≠ 20 → ξ' 267 i = ξ 267 i) ∧ ξ' 267 20 = nI (b + 1) ∧ ∀ j, ξ' 273 j = if 490 * b ≤ j ∧ j < 490 * b + 490 then ξ 272 (j - 490 * b) else ξ 273 j := by
  obtain ⟨ζ, e, f1, f2⟩ := sX12_putsTo (b := b) (a1 := ξ 267 20) (μ := ξ) (by rw [h]; exact tN (by omega)) (by omega)
  unfold fX12_keepsAct_n52
  rw [e, zBd_some, zLt_eq, f1 267 (by decide), h, show nI b + (1 : Int32) = nI (b + 1) from nI_1 b]
  exact ⟨_, rfl, fun a h1 h2 => by rw [zUp_ne _ h2, f1 a h1], fun i hi => by rw [zUp_slot _ hi, f1 267 (by decide)], zUp_same _ _ _ _, fun j => by rw [zUp_ne _ (by decide)]; exact f2 j⟩
theorem sKeep {cnt : Nat} {ξ : gM} (h : ξ 267 20 = nI cnt) (hc : cnt ≤ 12) : ∃ (c' d : Nat) (ξ' : gM), fX12_keepsAct ξ = some ξ' ∧ ((cnt < 12 ∧ c' = cnt + 1 ∧ d = 0) ∨ (cnt = 12 ∧ c' = 12 ∧ d = 1)) ∧ (∀ a, a ≠ 273 → a ≠ 267 → ξ' a = ξ a) ∧ (∀ i, i ≠ 20 → ξ' 267 i = ξ 267 i) ∧ ξ' 267 20 = nI c' ∧ (∀ i, i < 490 → ξ' 273 (490 * (c' - 1) + i) = ξ 272 i) ∧ (∀ b i, b + 1 < c' → i < 490 → ξ' 273 (490 * b + i) = ξ 273 (490 * (b + d) + i)) ∧ ∀ b i, 12 ≤ b → i < 490 → ξ' 273 (490 * b + i) = ξ 273 (490 * b + i) := by
  unfold fX12_keepsAct
  by_cases c : cnt = 12
  · subst c
    have h12 : ξ 267 20 = (12 : Int32) := h
    rw [if_pos h12]
    obtain ⟨r, er, pr⟩ := keeps_l13 (Q := fun ξ' => (∀ a, a ≠ 273 → a ≠ 267 → ξ' a = ξ a) ∧ (∀ i, i ≠ 20 → ξ' 267 i = ξ 267 i) ∧ ξ' 267 20 = nI 12 ∧ (∀ i, i < 490 → ξ' 273 (490 * (12 - 1) + i) = ξ 272 i) ∧ (∀ b i, b + 1 < 12 → i < 490 → ξ' 273 (490 * b + i) = ξ 273 (490 * (b + 1) + i)) ∧ ∀ b i, 12 ≤ b → i < 490 → ξ' 273 (490 * b + i) = ξ 273 (490 * b + i)) 100000 (490 : Int32) 490 ξ rfl (by decide) (by decide) (by decide) (fun ν hν hj => by
      rw [zLt_eq]
      obtain ⟨ξ', e, f1, f2, f3, f4⟩ := sKeep52 (b := 11) (ξ := gUp ν 267 20 (ν 267 20 - 1)) (by rw [zUp_same, hν 267 (by decide), h12]; rfl) (by decide)
      have j4 : ∀ j, ξ' 273 j = if 5390 ≤ j ∧ j < 5880 then ξ 272 (j - 5390) else (if 490 ≤ j + 490 ∧ j + 490 < 5880 then ξ 273 (j + 490) else ξ 273 j) := fun j => by
        rw [f4 j, zUp_ne _ (by decide), zUp_ne _ (by decide), hν 272 (by decide), hj j]
      refine ⟨ξ', e, fun a h1 h2 => by rw [f1 a h1 h2, zUp_ne _ h2, hν a h1], fun i hi => by rw [f2 i hi, zUp_slot _ hi, hν 267 (by decide)], f3, fun i hi => ?_, fun b i hb hi => ?_, fun b i hb hi => ?_⟩
      · rw [j4, if_pos (by omega), show 490 * (12 - 1) + i - 5390 = i by omega]
      · rw [j4, if_neg (by omega), if_pos (by omega), show 490 * b + i + 490 = 490 * (b + 1) + i by omega]
      · rw [j4, if_neg (by omega), if_neg (by omega)])
    exact ⟨12, 1, r, er, Or.inr ⟨rfl, rfl, rfl⟩, pr⟩
  · rw [if_neg (fun w => c (by rw [h] at w; exact nI_inj (b := 12) (by omega) (by omega) w))]
    obtain ⟨ξ', e, f1, f2, f3, f4⟩ := sKeep52 h (by omega)
    refine ⟨cnt + 1, 0, ξ', e, Or.inl ⟨by omega, rfl, rfl⟩, f1, f2, f3, fun i hi => ?_, fun b i hb hi => ?_, fun b i hb hi => ?_⟩
    · rw [f4, if_pos (by omega), show 490 * (cnt + 1 - 1) + i - 490 * cnt = i by omega]
    · rw [f4, if_neg (by omega), Nat.add_zero]
    · rw [f4, if_neg (by omega)]
theorem cSave {cnt idx : Nat} {μ : gM} (h2 : μ 49 2 = nI cnt) (h3 : μ 49 3 = nI idx) (hc : cnt ≤ 12) (hi : idx < 12) : ∃ (i' : Nat) (μ' : gM), fX4_save 34 μ = some μ' ∧ i' = (idx + 1) % 12 ∧ (∀ a, a ≠ 49 → (a < 52 + 14 * i' ∨ 52 + 14 * i' + 13 < a) → μ' a = μ a) ∧ μ' 49 2 = nI (if cnt < 12 then cnt + 1 else 12) ∧ μ' 49 3 = nI i' ∧ (∀ i, i ≠ 2 → i ≠ 3 → μ' 49 i = μ 49 i) ∧ ∀ j i, INR j i → μ' (52 + 14 * i' + j) i = μ (34 + j) i := by
  have t12 : (12 : Int32) = nI 12 := rfl
  have mn : zMn (nI cnt + 1) 12 = nI (if cnt < 12 then cnt + 1 else 12) := by
    rw [show nI cnt + (1 : Int32) = nI (cnt + 1) from nI_1 cnt]
    unfold zMn
    by_cases c : cnt < 12
    · rw [if_pos c, if_neg (fun w => by have := Int32.lt_iff_toInt_lt.mp w; rw [t12, tN (by omega), tN (by omega)] at this; omega)]
    · rw [if_neg c, if_pos (Int32.lt_iff_toInt_lt.mpr (by rw [t12, tN (by omega), tN (by omega)]; omega))]
      exact t12
  have n22 : ∀ i', i' < 12 → ∃ μ', fX4_save_n22 34 (nI i') μ = some μ' ∧ (∀ a, a ≠ 49 → (a < 52 + 14 * i' ∨ 52 + 14 * i' + 13 < a) → μ' a = μ a) ∧ μ' 49 2 = nI (if cnt < 12 then cnt + 1 else 12) ∧ μ' 49 3 = nI i' ∧ (∀ i, i ≠ 2 → i ≠ 3 → μ' 49 i = μ 49 i) ∧ ∀ j i, INR j i → μ' (52 + 14 * i' + j) i = μ (34 + j) i := fun i' h' => by
    unfold fX4_save_n22
    rw [zLt_eq, zLt_eq, zUp_slot (i := 3) (j := 2) _ (by decide), h2, mn]
    generalize eν : gUp (gUp μ 49 3 (nI i')) 49 2 (nI (if cnt < 12 then cnt + 1 else 12)) = ν
    have v3 : ν 49 3 = nI i' := by rw [← eν, zUp_slot _ (by decide), zUp_same]
    have v2 : ν 49 2 = nI (if cnt < 12 then cnt + 1 else 12) := by rw [← eν, zUp_same]
    have vi : ∀ i, i ≠ 2 → i ≠ 3 → ν 49 i = μ 49 i := fun i h2 h3 => by rw [← eν, zUp_slot _ h2, zUp_slot _ h3]
    have vo : ∀ a, a ≠ 49 → ν a = μ a := fun a ha => by rw [← eν, zUp_ne _ ha, zUp_ne _ ha]
    rw [v3]
    unfold zCk
    rw [if_pos (gI (by omega) (by decide)), nI_clamp (by omega)]
    obtain ⟨μ', e, f1, f2⟩ := cCopy (p := 52 + 14 * i') (q := 34) (μ := ν) (by omega)
    rw [e, zBd_some]
    exact ⟨μ', rfl, fun a h1 h2 => by rw [f1 a h2, vo a h1], by rw [f1 49 (by omega), v2], by rw [f1 49 (by omega), v3], fun i h2 h3 => by rw [f1 49 (by omega), vi i h2 h3], fun j i hj => by rw [f2 j i hj, vo _ (by unfold INR at hj; omega)]⟩
  unfold fX4_save
  rw [h3, show nI idx + (1 : Int32) = nI (idx + 1) from nI_1 idx]
  by_cases c : idx = 11
  · obtain ⟨μ', e, q⟩ := n22 0 (by decide)
    rw [if_pos (by rw [t12]; exact (nIle (by omega) (by omega)).mpr (by omega)), z32, e]
    exact ⟨0, μ', rfl, by rw [c], q⟩
  · obtain ⟨μ', e, q⟩ := n22 (idx + 1) (by omega)
    rw [if_neg (fun w => c (by rw [t12] at w; have := (nIle (by omega) (by omega)).mp w; omega)), e]
    exact ⟨idx + 1, μ', rfl, by omega, q⟩
/-- an act is kept: both -/
theorem pSave {μ ξ : gM} (gd : GD 34 μ ξ) (ps : PAST μ ξ) : ∃ μ' ξ', fX4_save 34 μ = some μ' ∧ fX12_keepsAct ξ = some ξ' ∧ PAST μ' ξ' ∧ (∀ a, a < 49 ∨ 220 ≤ a → μ' a = μ a) ∧ (∀ a, a ≠ 273 → a ≠ 267 → ξ' a = ξ a) ∧ ∀ i, i ≠ 20 → ξ' 267 i = ξ 267 i := by
  obtain ⟨cnt, idx, p1, p2, p3, p4, p5, p6, p7⟩ := ps
  obtain ⟨i', μ', e1, hi', f1, f2, f3, f4, f5⟩ := cSave p3 p4 p1 p2
  obtain ⟨c', d, ξ', e2, cd, g1, g2, g3, g4, g5, g6⟩ := sKeep p5 p1
  have i12 : i' < 12 := by omega
  have c12 : c' ≤ 12 := by omega
  have ec : (if cnt < 12 then cnt + 1 else 12) = c' := by
    rcases cd with ⟨w1, w2, -⟩ | ⟨w1, w2, -⟩
    · rw [if_pos w1, w2]
    · rw [if_neg (by omega), w2]
  have fA : ∀ a, 4 ≤ a → a ≤ 16 → μ' a = μ a := fun a h1 h2 => f1 a (by omega) (by omega)
  have g9 : ξ' 269 = ξ 269 := g1 269 (by decide) (by decide)
  refine ⟨μ', ξ', e1, e2, ⟨c', i', c12, i12, by rw [f2, ec], f3, g3, fun t ht => ?_, fun k hk => ?_⟩, fun a ha => f1 a (by omega) (by omega), g1, g2⟩
  · by_cases t0 : t = 0
    · subst t0
      have ea : actS i' 0 = 52 + 14 * i' := by unfold actS; omega
      rw [ea, Nat.sub_zero]
      exact SVD.put gd fA g9 f5 g4
    · have ea : actS i' t = actS idx (t - 1) := by unfold actS; omega
      rw [ea]
      refine (p6 (t - 1) (by omega)).cp fA g9 (fun j i hj => ?_) (fun i hi => ?_)
      · have : j ≤ 13 := by unfold INR at hj; omega
        rw [f1 _ (by unfold actS; omega) (by unfold actS; omega)]
      · rw [g5 _ i (by omega) hi, show c' - 1 - t + d = cnt - 1 - (t - 1) by omega]
  · rcases p7 k hk with ⟨w1, w2, w3⟩ | ⟨w1, w2⟩
    · refine Or.inl ⟨by rw [f4 4 (by decide) (by decide)]; exact w1, by rw [g1 274 (by decide) (by decide)]; exact w2, w3.cp fA g9 (fun j i hj => ?_) (fun i hi => g6 _ i (by omega) hi)⟩
      have : j ≤ 13 := by unfold INR at hj; omega
      rw [f1 _ (by omega) (by omega)]
    · exact Or.inr ⟨by rw [f4 4 (by decide) (by decide)]; exact w1, by rw [g1 274 (by decide) (by decide)]; exact w2⟩
