/-! an act undone, an image kept, an image taken back -/
theorem SVD.mv {q b : Nat} {μ ξ μ' ξ' : gM} (h : SVD q b μ ξ) (hA : ∀ a, 4 ≤ a → a ≤ 16 → μ' a = μ a) (h9 : ξ' 269 = ξ 269) (hr : ∀ a, q ≤ a → a ≤ q + 13 → μ' a = μ a) (hx : ∀ i, i < 490 → ξ' 273 (490 * b + i) = ξ 273 (490 * b + i)) : SVD q b μ' ξ' := h.cp hA h9 (fun j i hj => by rw [hr (q + j) (by omega) (by unfold INR at hj; omega)]) hx
theorem pUndo {μ ξ : gM} (ps : PAST μ ξ) : (μ 49 2 = 0 ∧ ξ 267 20 = 0) ∨ (μ 49 2 ≠ 0 ∧ ξ 267 20 ≠ 0 ∧ ∃ μ' ξ', fX4_restore 34 μ = some (1, μ') ∧ fX12_takesFrom (gUp ξ 267 20 (ξ 267 20 - 1) 267 20) (gUp ξ 267 20 (ξ 267 20 - 1)) = some ξ' ∧ GD 34 μ' ξ' ∧ PAST μ' ξ' ∧ μ' 49 2 = ξ' 267 20 ∧ (∀ a, a < 34 ∨ (47 < a ∧ a ≠ 49) → μ' a = μ a) ∧ (∀ a, a ≠ 267 → a ≠ 272 → ξ' a = ξ a) ∧ ∀ i, i ≠ 20 → ξ' 267 i = ξ 267 i) := by
  obtain ⟨cnt, idx, p1, p2, p3, p4, p5, p6, p7⟩ := ps
  by_cases c : cnt = 0
  · subst c
    exact Or.inl ⟨p3, p5⟩
  · have ne : ¬ nI cnt = 0 := fun w => c (nI_inj (b := 0) (by omega) (by omega) w)
    refine Or.inr ⟨by rw [p3]; exact ne, by rw [p5]; exact ne, ?_⟩
    have em : nI cnt - (1 : Int32) = nI (cnt - 1) := nI_of' ((iS (tN (m := cnt) (by omega)) (iL (1) (1) rfl) (by omega) (by omega)).trans (by omega))
    obtain ⟨ν, e1, f1, f2⟩ := cCopy (p := 34) (q := 52 + 14 * idx) (μ := μ) (by omega)
    have v3 : ν 49 3 = nI idx := by rw [f1 49 (by omega), p4]
    have v2 : ν 49 2 = nI cnt := by rw [f1 49 (by omega), p3]
    have cr : ∃ i' : Nat, i' = (idx + 11) % 12 ∧ fX4_restore 34 μ = some (1, gUp (gUp ν 49 3 (nI i')) 49 2 (nI (cnt - 1))) := by
      have n41 : ∀ z : Int32, fX4_restore_n41 34 z ν = some (1, gUp (gUp ν 49 3 z) 49 2 (nI (cnt - 1))) := fun z => by
        unfold fX4_restore_n41
        rw [zLt_eq, zLt_eq, zUp_slot (i := 3) (j := 2) _ (by decide), v2, em]
      unfold fX4_restore
      rw [p3, if_neg ne, p4]
      unfold zCk
      rw [if_pos (gI (by omega) (by decide)), nI_clamp (by omega), e1, zBd_some, v3]
      by_cases i0 : idx = 0
      · rw [if_pos (by rw [i0]; decide), n41]
        exact ⟨11, by rw [i0], rfl⟩
      · rw [if_neg (fun w => by have := Int32.le_iff_toInt_le.mp w; rw [tN (by omega)] at this; have z : (0 : Int32).toInt = 0 := rfl; omega), n41]
        exact ⟨idx - 1, by omega, by rw [show nI idx - (1 : Int32) = nI (idx - 1) from nI_of' ((iS (tN (m := idx) (by omega)) (iL (1) (1) rfl) (by omega) (by omega)).trans (by omega))]⟩
    obtain ⟨i', hi', er⟩ := cr
    obtain ⟨ξ', e2, g1, g2⟩ := sX12_takesFrom (b := cnt - 1) (a1 := gUp ξ 267 20 (ξ 267 20 - 1) 267 20) (μ := gUp ξ 267 20 (ξ 267 20 - 1)) (by rw [zUp_same, p5, em]; exact tN (by omega)) (by omega)
    have x20 : ξ' 267 20 = nI (cnt - 1) := by rw [g1 267 (by decide), zUp_same, p5, em]
    have ox : ∀ a, a ≠ 267 → a ≠ 272 → ξ' a = ξ a := fun a h1 h2 => by rw [g1 a h2, zUp_ne _ h1]
    generalize eμ : gUp (gUp ν 49 3 (nI i')) 49 2 (nI (cnt - 1)) = μ' at er
    have o49 : ∀ a, a ≠ 49 → μ' a = ν a := fun a ha => by rw [← eμ, zUp_ne _ ha, zUp_ne _ ha]
    have om : ∀ a, a < 34 ∨ (47 < a ∧ a ≠ 49) → μ' a = μ a := fun a ha => by rw [o49 a (by omega), f1 a (by omega)]
    have w4 : μ' 49 4 = μ 49 4 := by rw [← eμ, zUp_slot _ (by decide), zUp_slot _ (by decide), f1 49 (by omega)]
    have w2 : μ' 49 2 = nI (cnt - 1) := by rw [← eμ, zUp_same]
    have w3 : μ' 49 3 = nI i' := by rw [← eμ, zUp_slot _ (by decide), zUp_same]
    have hA : ∀ a, 4 ≤ a → a ≤ 16 → μ' a = μ a := fun a h1 h2 => om a (by omega)
    have h9 : ξ' 269 = ξ 269 := ox 269 (by decide) (by decide)
    have h3 : ξ' 273 = ξ 273 := ox 273 (by decide) (by decide)
    refine ⟨μ', ξ', er, e2, ?_, ⟨cnt - 1, i', by omega, by omega, w2, w3, x20, fun t ht => ?_, fun k hk => ?_⟩, by rw [w2, x20], om, ox, fun i hi => by rw [g1 267 (by decide), zUp_slot _ hi]⟩
    · refine SVD.get (p6 0 (by omega)) hA h9 (fun j i hj => ?_) (fun i hi => ?_)
      · rw [o49 _ (by unfold INR at hj; omega), f2 j i hj]
        have ea : actS idx 0 = 52 + 14 * idx := by unfold actS; omega
        rw [ea]
      · rw [g2, if_pos ⟨Nat.zero_le _, hi⟩, zUp_ne _ (by decide), Nat.sub_zero]
    · have ea : actS i' t = actS idx (t + 1) := by unfold actS; omega
      rw [ea, show cnt - 1 - 1 - t = cnt - 1 - (t + 1) by omega]
      exact (p6 (t + 1) (by omega)).mv hA h9 (fun a h1 h2 => om a (by unfold actS at *; omega)) (fun i _ => by rw [h3])
    · rw [w4, ox 274 (by decide) (by decide)]
      rcases p7 k hk with ⟨u1, u2, u3⟩ | u
      · exact Or.inl ⟨u1, u2, u3.mv hA h9 (fun a h1 h2 => om a (by omega)) (fun i _ => by rw [h3])⟩
      · exact Or.inr u
theorem pKeepI {k : Nat} {μ ξ : gM} (hk : k < 2) (gd : GD 34 μ ξ) (ps : PAST μ ξ) : ∃ μ' ζ, fX4_keepImage 34 (nI k) μ = some μ' ∧ fX12_putsTo (nI (12 + k)) ξ = some ζ ∧ PAST μ' (gUp ζ 274 k 1) ∧ (∀ a, a < 49 ∨ (49 < a ∧ a < 220) ∨ 247 < a → μ' a = μ a) ∧ ∀ a, a ≠ 273 → ζ a = ξ a := by
  obtain ⟨cnt, idx, p1, p2, p3, p4, p5, p6, p7⟩ := ps
  obtain ⟨ν, e1, f1, f2⟩ := cCopy (p := 220 + 14 * k) (q := 34) (μ := μ) (by omega)
  obtain ⟨ζ, e2, g1, g2⟩ := sX12_putsTo (b := 12 + k) (a1 := nI (12 + k)) (μ := ξ) (tN (by omega)) (by omega)
  have er : fX4_keepImage 34 (nI k) μ = some (gUp ν 49 4 (ν 49 4 ||| ((1 : Int32) <<< (nI k &&& 31)))) := by
    unfold fX4_keepImage zCk
    rw [if_pos (gI (by omega) (by decide)), nI_clamp (by omega), e1, zBd_some, zLt_eq]
  generalize eμ : gUp ν 49 4 (ν 49 4 ||| ((1 : Int32) <<< (nI k &&& 31))) = μ' at er
  generalize eζ : gUp ζ 274 k 1 = ξ'
  have om : ∀ a, a ≠ 49 → (a < 220 + 14 * k ∨ 220 + 14 * k + 13 < a) → μ' a = μ a := fun a h1 h2 => by rw [← eμ, zUp_ne _ h1, f1 a h2]
  have m49 : ∀ i, i ≠ 4 → μ' 49 i = μ 49 i := fun i hi => by rw [← eμ, zUp_slot _ hi, f1 49 (by omega)]
  have m4 : μ' 49 4 = μ 49 4 ||| ((1 : Int32) <<< (nI k &&& 31)) := by rw [← eμ, zUp_same, f1 49 (by omega)]
  have ox : ∀ a, a ≠ 273 → a ≠ 274 → ξ' a = ξ a := fun a h1 h2 => by rw [← eζ, zUp_ne _ h2, g1 a h1]
  have x3 : ∀ j, ξ' 273 j = if 490 * (12 + k) ≤ j ∧ j < 490 * (12 + k) + 490 then ξ 272 (j - 490 * (12 + k)) else ξ 273 j := fun j => by rw [← eζ, zUp_ne _ (by decide)]; exact g2 j
  have x4 : ∀ j, ξ' 274 j = if j = k then 1 else ξ 274 j := fun j => by rw [← eζ, zUp_at, if_pos rfl, g1 274 (by decide)]
  have hA : ∀ a, 4 ≤ a → a ≤ 16 → μ' a = μ a := fun a h1 h2 => om a (by omega) (by omega)
  have h9 : ξ' 269 = ξ 269 := ox 269 (by decide) (by decide)
  refine ⟨μ', ζ, er, e2, ?_, fun a ha => om a (by omega) (by omega), g1⟩
  rw [eζ]
  refine ⟨cnt, idx, p1, p2, by rw [m49 2 (by decide)]; exact p3, by rw [m49 3 (by decide)]; exact p4, by rw [ox 267 (by decide) (by decide)]; exact p5, fun t ht => ?_, fun j hj => ?_⟩
  · exact (p6 t ht).mv hA h9 (fun a h1 h2 => om a (by unfold actS at *; omega) (by unfold actS at *; omega)) (fun i hi => by rw [x3, if_neg (by omega)])
  · by_cases ej : j = k
    · subst ej
      refine Or.inl ⟨by rw [m4, bt_or, bt_one j (by omega) j (by omega), decide_eq_true rfl, Bool.or_true], by rw [x4, if_pos rfl], SVD.put gd hA h9 (fun a i hi => ?_) (fun i hi => ?_)⟩
      · rw [← eμ, zUp_ne _ (by omega)]
        exact f2 a i hi
      · rw [x3, if_pos (by omega), show 490 * (12 + j) + i - 490 * (12 + j) = i by omega]
    · rw [m4, bt_or, bt_one k (by omega) j (by omega), decide_eq_false ej, Bool.or_false, x4, if_neg ej]
      rcases p7 j hj with ⟨u1, u2, u3⟩ | u
      · exact Or.inl ⟨u1, u2, u3.mv hA h9 (fun a h1 h2 => om a (by omega) (by omega)) (fun i hi => by rw [x3, if_neg (by omega)])⟩
      · exact Or.inr u
theorem pBackI {k : Nat} {μ ξ : gM} (hk : k < 2) (ps : PAST μ ξ) : (fX4_takeImage 34 (nI k) μ = some (0, μ) ∧ ξ 274 k = 0) ∨ (¬ ξ 274 k = 0 ∧ ∃ μ' ζ, fX4_takeImage 34 (nI k) μ = some (1, μ') ∧ fX12_takesFrom (nI (12 + k)) ξ = some ζ ∧ GD 34 μ' (gUp ζ 267 20 0) ∧ PAST μ' (gUp ζ 267 20 0) ∧ (∀ a, a < 34 ∨ (47 < a ∧ a ≠ 49) → μ' a = μ a) ∧ ∀ a, a ≠ 272 → ζ a = ξ a) := by
  obtain ⟨cnt, idx, p1, p2, p3, p4, p5, p6, p7⟩ := ps
  unfold fX4_takeImage
  rcases p7 k hk with ⟨u1, u2, u3⟩ | ⟨u1, u2⟩
  · refine Or.inr ⟨by rw [u2]; decide, ?_⟩
    obtain ⟨ν, e1, f1, f2⟩ := cCopy (p := 34) (q := 220 + 14 * k) (μ := μ) (by omega)
    obtain ⟨ζ, e2, g1, g2⟩ := sX12_takesFrom (b := 12 + k) (a1 := nI (12 + k)) (μ := ξ) (tN (by omega)) (by omega)
    rw [if_neg (fun w => by have := (bit0_iff (by omega)).mp w; rw [u1] at this; exact absurd this (by decide))]
    unfold zCk
    rw [if_pos (gI (by omega) (by decide)), nI_clamp (by omega), e1, zBd_some, zLt_eq]
    generalize eμ : gUp ν 49 2 0 = μ'
    generalize eζ : gUp ζ 267 20 0 = ξ'
    have om : ∀ a, a < 34 ∨ (47 < a ∧ a ≠ 49) → μ' a = μ a := fun a ha => by rw [← eμ, zUp_ne _ (by omega), f1 a (by omega)]
    have m49 : ∀ i, i ≠ 2 → μ' 49 i = μ 49 i := fun i hi => by rw [← eμ, zUp_slot _ hi, f1 49 (by omega)]
    have ox : ∀ a, a ≠ 267 → a ≠ 272 → ξ' a = ξ a := fun a h1 h2 => by rw [← eζ, zUp_ne _ h1, g1 a h2]
    have hA : ∀ a, 4 ≤ a → a ≤ 16 → μ' a = μ a := fun a h1 h2 => om a (by omega)
    have h9 : ξ' 269 = ξ 269 := ox 269 (by decide) (by decide)
    have h3 : ξ' 273 = ξ 273 := ox 273 (by decide) (by decide)
    suffices q : GD 34 μ' ξ' ∧ PAST μ' ξ' by
      refine ⟨μ', ζ, rfl, e2, ?_, ?_, om, g1⟩
      · rw [eζ]; exact q.1
      · rw [eζ]; exact q.2
    refine ⟨?_, ⟨0, idx, by decide, p2, by rw [← eμ, zUp_same]; rfl, by rw [m49 3 (by decide)]; exact p4, by rw [← eζ, zUp_same]; rfl, fun t ht => absurd ht (by omega), fun j hj => ?_⟩⟩
    · refine SVD.get u3 hA h9 (fun j i hj => ?_) (fun i hi => ?_)
      · rw [← eμ, zUp_ne _ (by unfold INR at hj; omega), f2 j i hj]
      · rw [← eζ, zUp_ne _ (by decide), g2, if_pos ⟨Nat.zero_le _, hi⟩]
    · rw [m49 4 (by decide), ox 274 (by decide) (by decide)]
      rcases p7 j hj with ⟨v1, v2, v3⟩ | v
      · exact Or.inl ⟨v1, v2, v3.mv hA h9 (fun a h1 h2 => om a (by omega)) (fun i _ => by rw [h3])⟩
      · exact Or.inr v
  · rw [if_pos ((bit0_iff (by omega)).mpr u1)]
    exact Or.inl ⟨rfl, u2⟩
