/-! how both begin: all is cleared -/
theorem cClr104 {s : Nat} (hs : 34 ≤ s) : ∀ (m j : Nat) (μ : gM), j ≤ 30 → 30 < j + m → ∃ μ', fX9_clear_l104 s 12 m (nI j) μ = some μ' ∧ (∀ a, a ≠ s + 9 → a ≠ s + 12 → a ≠ s + 13 → μ' a = μ a) ∧ ∀ i, i < 30 → (i < j → μ' (s + 9) i = μ (s + 9) i ∧ μ' (s + 12) i = μ (s + 12) i ∧ μ' (s + 13) i = μ (s + 13) i) ∧ (j ≤ i → μ' (s + 9) i = μ 12 i ∧ μ' (s + 12) i = 0 ∧ μ' (s + 13) i = -1) := by
  intro m
  induction m with
  | zero => intro j μ h1 h2; exact absurd h2 (by omega)
  | succ m ih =>
    intro j μ h1 h2
    have t30 : (30 : Int32) = nI 30 := rfl
    rw [fX9_clear_l104]
    by_cases cj : j = 30
    · rw [if_pos (by rw [t30]; exact (nIle (by omega) (by omega)).mpr (by omega))]
      exact ⟨μ, rfl, fun _ _ _ _ => rfl, fun i hi => ⟨fun _ => ⟨rfl, rfl, rfl⟩, fun w => absurd w (by omega)⟩⟩
    · have nl : ¬ (30 : Int32) ≤ nI j := fun w => cj (by rw [t30] at w; have := (nIle (by omega) (by omega)).mp w; omega)
      have gj : gIn (nI j) 30 = true := gI (by omega) (by decide)
      rw [if_neg nl, if_neg nl]
      unfold zCk
      rw [if_pos gj, if_pos gj, zLt_eq, if_pos gj, zLt_eq, if_pos gj, zLt_eq, zLt_eq, nI_clamp (by omega), show nI j + (1 : Int32) = nI (j + 1) from nI_1 j]
      generalize eν : gUp (gUp (gUp μ (s + 9) j (μ 12 j)) (s + 12) j 0) (s + 13) j (-1) = ν
      have o : ∀ a, a ≠ s + 9 → a ≠ s + 12 → a ≠ s + 13 → ν a = μ a := fun a h1 h2 h3 => by rw [← eν, zUp_ne _ h3, zUp_ne _ h2, zUp_ne _ h1]
      have n9 : ∀ i, ν (s + 9) i = if i = j then μ 12 j else μ (s + 9) i := fun i => by rw [← eν, zUp_ne _ (by omega), zUp_ne _ (by omega), zUp_at, if_pos rfl]
      have n12 : ∀ i, ν (s + 12) i = if i = j then 0 else μ (s + 12) i := fun i => by rw [← eν, zUp_ne _ (by omega), zUp_at, if_pos rfl, zUp_ne _ (by omega)]
      have n13 : ∀ i, ν (s + 13) i = if i = j then -1 else μ (s + 13) i := fun i => by rw [← eν, zUp_at, if_pos rfl, zUp_ne _ (by omega), zUp_ne _ (by omega)]
      obtain ⟨μ', e, f1, f2⟩ := ih (j + 1) ν (by omega) (by omega)
      refine ⟨μ', e, fun a h1 h2 h3 => by rw [f1 a h1 h2 h3, o a h1 h2 h3], fun i hi => ⟨fun w => ?_, fun w => ?_⟩⟩
      · obtain ⟨v1, v2, v3⟩ := (f2 i hi).1 (by omega)
        rw [v1, v2, v3, n9, n12, n13, if_neg (by omega), if_neg (by omega), if_neg (by omega)]
        exact ⟨rfl, rfl, rfl⟩
      · by_cases ei : i = j
        · obtain ⟨v1, v2, v3⟩ := (f2 i hi).1 (by omega)
          rw [v1, v2, v3, n9, n12, n13, if_pos ei, if_pos ei, if_pos ei, ei]
          exact ⟨rfl, rfl, rfl⟩
        · obtain ⟨v1, v2, v3⟩ := (f2 i hi).2 (by omega)
          rw [v1, v2, v3, o 12 (by omega) (by omega) (by omega)]
          exact ⟨rfl, rfl, rfl⟩
theorem cClr63 {s : Nat} (hs : 34 ≤ s) : ∀ (m j : Nat) (μ : gM), j ≤ 5 → 5 < j + m → ∃ ν, fX9_clear_l63 s 12 m (nI j) μ = fX9_clear_l104 s 12 100000 (nI 0) ν ∧ (∀ a, a ≠ s + 5 → a ≠ s + 6 → a ≠ s + 7 → a ≠ s + 8 → ν a = μ a) ∧ ∀ i, i < 5 → (i < j → ν (s + 5) i = μ (s + 5) i ∧ ν (s + 6) i = μ (s + 6) i ∧ ν (s + 7) i = μ (s + 7) i ∧ ν (s + 8) i = μ (s + 8) i) ∧ (j ≤ i → ν (s + 5) i = 0 ∧ ν (s + 6) i = 0 ∧ ν (s + 7) i = 0 ∧ ν (s + 8) i = 0) := by
  intro m
  induction m with
  | zero => intro j μ h1 h2; exact absurd h2 (by omega)
  | succ m ih =>
    intro j μ h1 h2
    have t5 : (5 : Int32) = nI 5 := rfl
    rw [fX9_clear_l63]
    by_cases cj : j = 5
    · rw [if_pos (by rw [t5]; exact (nIle (by omega) (by omega)).mpr (by omega))]
      exact ⟨μ, by rw [z32], fun _ _ _ _ _ => rfl, fun i hi => ⟨fun _ => ⟨rfl, rfl, rfl, rfl⟩, fun w => absurd w (by omega)⟩⟩
    · have nl : ¬ (5 : Int32) ≤ nI j := fun w => cj (by rw [t5] at w; have := (nIle (by omega) (by omega)).mp w; omega)
      have gj : gIn (nI j) 5 = true := gI (by omega) (by decide)
      rw [if_neg nl]
      unfold zCk
      rw [if_pos gj, zLt_eq, if_pos gj, zLt_eq, if_pos gj, zLt_eq, if_pos gj, zLt_eq, zLt_eq, nI_clamp (by omega), show nI j + (1 : Int32) = nI (j + 1) from nI_1 j]
      generalize eν : gUp (gUp (gUp (gUp μ (s + 5) j 0) (s + 6) j 0) (s + 7) j 0) (s + 8) j 0 = ν
      have o : ∀ a, a ≠ s + 5 → a ≠ s + 6 → a ≠ s + 7 → a ≠ s + 8 → ν a = μ a := fun a h1 h2 h3 h4 => by rw [← eν, zUp_ne _ h4, zUp_ne _ h3, zUp_ne _ h2, zUp_ne _ h1]
      have n5 : ∀ i, ν (s + 5) i = if i = j then 0 else μ (s + 5) i := fun i => by rw [← eν, zUp_ne _ (by omega), zUp_ne _ (by omega), zUp_ne _ (by omega), zUp_at, if_pos rfl]
      have n6 : ∀ i, ν (s + 6) i = if i = j then 0 else μ (s + 6) i := fun i => by rw [← eν, zUp_ne _ (by omega), zUp_ne _ (by omega), zUp_at, if_pos rfl, zUp_ne _ (by omega)]
      have n7 : ∀ i, ν (s + 7) i = if i = j then 0 else μ (s + 7) i := fun i => by rw [← eν, zUp_ne _ (by omega), zUp_at, if_pos rfl, zUp_ne _ (by omega), zUp_ne _ (by omega)]
      have n8 : ∀ i, ν (s + 8) i = if i = j then 0 else μ (s + 8) i := fun i => by rw [← eν, zUp_at, if_pos rfl, zUp_ne _ (by omega), zUp_ne _ (by omega), zUp_ne _ (by omega)]
      obtain ⟨μ', e, f1, f2⟩ := ih (j + 1) ν (by omega) (by omega)
      refine ⟨μ', e, fun a h1 h2 h3 h4 => by rw [f1 a h1 h2 h3 h4, o a h1 h2 h3 h4], fun i hi => ⟨fun w => ?_, fun w => ?_⟩⟩
      · obtain ⟨v1, v2, v3, v4⟩ := (f2 i hi).1 (by omega)
        rw [v1, v2, v3, v4, n5, n6, n7, n8, if_neg (by omega), if_neg (by omega), if_neg (by omega), if_neg (by omega)]
        exact ⟨rfl, rfl, rfl, rfl⟩
      · by_cases ei : i = j
        · obtain ⟨v1, v2, v3, v4⟩ := (f2 i hi).1 (by omega)
          rw [v1, v2, v3, v4, n5, n6, n7, n8, if_pos ei, if_pos ei, if_pos ei, if_pos ei]
          exact ⟨rfl, rfl, rfl, rfl⟩
        · exact (f2 i hi).2 (by omega)
theorem cClear34 {s : Nat} {μ : gM} (hs : 34 ≤ s) : ∃ μ', fX9_clear s 12 μ = some μ' ∧ (∀ a, a ≠ s → a ≠ s + 1 → a ≠ s + 3 → a ≠ s + 5 → a ≠ s + 6 → a ≠ s + 7 → a ≠ s + 8 → a ≠ s + 9 → a ≠ s + 12 → a ≠ s + 13 → μ' a = μ a) ∧ (∀ i, i ≠ 5 → i < 9 → μ' s i = 0) ∧ μ' s 5 = 1 ∧ μ' (s + 1) 0 = 0 ∧ μ' (s + 3) 0 = 0 ∧ μ' (s + 3) 1 = μ (s + 3) 1 ∧ (∀ g, g < 5 → μ' (s + 5) g = 0 ∧ μ' (s + 6) g = 0 ∧ μ' (s + 7) g = 0 ∧ μ' (s + 8) g = 0) ∧ ∀ i, i < 30 → μ' (s + 9) i = μ 12 i ∧ μ' (s + 12) i = 0 ∧ μ' (s + 13) i = -1 := by
  unfold fX9_clear
  rw [zLt_eq, zLt_eq, zLt_eq, zLt_eq, zLt_eq, zLt_eq, zLt_eq, zLt_eq, zLt_eq, zLt_eq, zLt_eq]
  generalize eν : gUp (gUp (gUp (gUp (gUp (gUp (gUp (gUp (gUp μ s 0 0) s 1 0) s 2 0) s 3 0) s 4 0) s 5 1) s 6 0) s 7 0) s 8 0 = ν1
  have o1 : ∀ a, a ≠ s → ν1 a = μ a := fun a h1 => by rw [← eν, zUp_ne _ h1, zUp_ne _ h1, zUp_ne _ h1, zUp_ne _ h1, zUp_ne _ h1, zUp_ne _ h1, zUp_ne _ h1, zUp_ne _ h1, zUp_ne _ h1]
  have z1 : ∀ i, i ≠ 5 → i < 9 → ν1 s i = 0 := fun i h5 h9 => by
    rw [← eν, zUp_at, if_pos rfl, zUp_at, if_pos rfl, zUp_at, if_pos rfl, zUp_slot (i := 5) _ h5, zUp_at, if_pos rfl, zUp_at, if_pos rfl, zUp_at, if_pos rfl, zUp_at, if_pos rfl, zUp_at, if_pos rfl]
    have : i = 0 ∨ i = 1 ∨ i = 2 ∨ i = 3 ∨ i = 4 ∨ i = 6 ∨ i = 7 ∨ i = 8 := by omega
    rcases this with rfl | rfl | rfl | rfl | rfl | rfl | rfl | rfl <;> rfl
  have z5 : ν1 s 5 = 1 := by rw [← eν, zUp_slot _ (by decide), zUp_slot _ (by decide), zUp_slot _ (by decide), zUp_same]
  generalize eχ : gUp (gUp ν1 (s + 1) 0 0) (s + 3) 0 0 = ν2
  have o2 : ∀ a, a ≠ s + 1 → a ≠ s + 3 → ν2 a = ν1 a := fun a h1 h2 => by rw [← eχ, zUp_ne _ h2, zUp_ne _ h1]
  obtain ⟨ν3, e3, f3, q3⟩ := cClr63 hs 100000 0 ν2 (by decide) (by decide)
  obtain ⟨μ', e4, f4, q4⟩ := cClr104 hs 100000 0 ν3 (by decide) (by decide)
  have ez : fX9_clear_l63 s 12 100000 (0 : Int32) ν2 = fX9_clear_l63 s 12 100000 (nI 0) ν2 := by rw [z32]
  have fs : μ' s = ν1 s := by rw [f4 s (by omega) (by omega) (by omega), f3 s (by omega) (by omega) (by omega) (by omega), o2 s (by omega) (by omega)]
  refine ⟨μ', by rw [ez, e3, e4], fun a h0 h1 h3 h5 h6 h7 h8 h9 h12 h13 => by rw [f4 a h9 h12 h13, f3 a h5 h6 h7 h8, o2 a h1 h3, o1 a h0], fun i h5 h9 => by rw [fs]; exact z1 i h5 h9, by rw [fs]; exact z5, ?_, ?_, ?_, fun g hg => ?_, fun i hi => ?_⟩
  · rw [f4 _ (by omega) (by omega) (by omega), f3 _ (by omega) (by omega) (by omega) (by omega), ← eχ, zUp_ne _ (by omega), zUp_same]
  · rw [f4 _ (by omega) (by omega) (by omega), f3 _ (by omega) (by omega) (by omega) (by omega), ← eχ, zUp_same]
  · rw [f4 _ (by omega) (by omega) (by omega), f3 _ (by omega) (by omega) (by omega) (by omega), ← eχ, zUp_slot _ (by decide), zUp_ne _ (by omega), o1 _ (by omega)]
  · rw [f4 _ (by omega) (by omega) (by omega), f4 _ (by omega) (by omega) (by omega), f4 _ (by omega) (by omega) (by omega), f4 _ (by omega) (by omega) (by omega)]
    exact (q3 g hg).2 (Nat.zero_le _)
  · obtain ⟨v1, v2, v3⟩ := (q4 i hi).2 (Nat.zero_le _)
    rw [v1, v2, v3, f3 12 (by omega) (by omega) (by omega) (by omega), o2 12 (by omega) (by omega), o1 12 (by omega)]
    exact ⟨rfl, rfl, rfl⟩
theorem mSt2 : ∀ (m k : Nat) (ξ : gM), k ≤ 490 → 490 < k + m → ∃ ζ, fX12_starts_l2 m (nI k) ξ = fX12_starts_l32 100000 (nI 0) (gUp ζ 272 9 1) ∧ (∀ a, a ≠ 272 → ζ a = ξ a) ∧ (∀ i, k ≤ i → i < 490 → ζ 272 i = 0) ∧ ∀ i, i < k → ζ 272 i = ξ 272 i := by
  intro m
  induction m with
  | zero => intro k ξ h1 h2; exact absurd h2 (by omega)
  | succ m ih =>
    intro k ξ h1 h2
    have t4 : (490 : Int32) = nI 490 := rfl
    rw [fX12_starts_l2]
    by_cases ck : k = 490
    · rw [if_pos (by rw [t4]; exact (nIle (by omega) (by omega)).mpr (by omega)), zLt_eq]
      exact ⟨ξ, by rw [z32], fun _ _ => rfl, fun i h1 h2 => absurd h1 (by omega), fun _ _ => rfl⟩
    · rw [if_neg (fun w => ck (by rw [t4] at w; have := (nIle (by omega) (by omega)).mp w; omega))]
      unfold zCk
      rw [if_pos (gI (by omega) (by decide)), zLt_eq, zLt_eq, nI_clamp (by omega), show nI k + (1 : Int32) = nI (k + 1) from nI_1 k]
      obtain ⟨ζ, e, f1, f2, f3⟩ := ih (k + 1) (gUp ξ 272 k 0) (by omega) (by omega)
      refine ⟨ζ, e, fun a ha => by rw [f1 a ha, zUp_ne _ ha], fun i h1 h2 => ?_, fun i hi => by rw [f3 i (by omega), zUp_slot _ (by omega)]⟩
      by_cases ei : i = k
      · rw [f3 i (by omega), ei, zUp_same]
      · exact f2 i (by omega) h2
theorem mSt32 : ∀ (m k : Nat) (ξ : gM), k ≤ 30 → 30 < k + m → ∃ ζ, fX12_starts_l32 m (nI k) ξ = fX12_starts_l78 100000 (nI 0) (gUp ζ 272 1 (((1 : Int32) <<< ((ζ 269 0) &&& 31)) - (1 : Int32))) ∧ (∀ a, a ≠ 272 → ζ a = ξ a) ∧ (∀ i, k ≤ i → i < 30 → ζ 272 (10 + i) = ξ 269 (53 + i)) ∧ ∀ i, i < 10 + k ∨ 40 ≤ i → ζ 272 i = ξ 272 i := by
  intro m
  induction m with
  | zero => intro k ξ h1 h2; exact absurd h2 (by omega)
  | succ m ih =>
    intro k ξ h1 h2
    have t30 : (30 : Int32) = nI 30 := rfl
    rw [fX12_starts_l32]
    by_cases ck : k = 30
    · rw [if_pos (by rw [t30]; exact (nIle (by omega) (by omega)).mpr (by omega))]
      unfold fX12_gates
      rw [zBd_some, zLt_eq]
      exact ⟨ξ, by rw [z32], fun _ _ => rfl, fun i h1 h2 => absurd h1 (by omega), fun _ _ => rfl⟩
    · rw [if_neg (fun w => ck (by rw [t30] at w; have := (nIle (by omega) (by omega)).mp w; omega)), show (53 : Int32) + nI k = nI (53 + k) from nI_add 53 _, show (10 : Int32) + nI k = nI (10 + k) from nI_add 10 _]
      unfold zCk
      rw [if_pos (gI (by omega) (by decide)), if_pos (gI (by omega) (by decide)), zLt_eq, zLt_eq, nI_clamp (by omega), nI_clamp (by omega), show nI k + (1 : Int32) = nI (k + 1) from nI_1 k]
      obtain ⟨ζ, e, f1, f2, f3⟩ := ih (k + 1) (gUp ξ 272 (10 + k) (ξ 269 (53 + k))) (by omega) (by omega)
      refine ⟨ζ, e, fun a ha => by rw [f1 a ha, zUp_ne _ ha], fun i h1 h2 => ?_, fun i hi => by rw [f3 i (by omega), zUp_slot _ (by omega)]⟩
      by_cases ei : i = k
      · rw [f3 _ (by omega), ei, zUp_same]
      · rw [f2 i (by omega) h2, zUp_ne _ (by decide)]
theorem bt_msk : ∀ c : Nat, c ≤ 6 → ∀ i : Nat, i < 32 → bt (((1 : Int32) <<< (nI c &&& 31)) - (1 : Int32)) i = decide (i < c) := by decide +kernel
theorem addSub (x y : Int32) : x = y + (x - y) := by rw [Int32.add_comm, Int32.sub_add_cancel]
theorem pBegin {s cn cl cg ct : Nat} {μ ξ : gM} (hs : 34 ≤ s) (nt : NET μ ξ) (nc : NC μ ξ cn cl cg ct) (lg : 0 ≤ (μ (s + 3) 1).toInt ∧ (μ (s + 3) 1).toInt ≤ 59) : ∃ c μ' ξ', fX10_begin s μ = some μ' ∧ fX12_starts ξ = some ξ' ∧ RS s 0 True c cn cl cg ct μ' ξ' ∧ tkI ξ' = 0 ∧ (∀ a, a < s ∨ s + 14 < a → μ' a = μ a) ∧ (∀ a, a ≠ 267 → a ≠ 272 → a ≠ 275 → ξ' a = ξ a) ∧ ∀ i, i ≠ 22 → ξ' 267 i = ξ 267 i := by
  have b6 := nc.1.1
  unfold fX10_begin fX10_runAllGroups fX12_starts
  rw [zLt_eq, zLt_eq, zBd_some]
  generalize ea : gUp (gUp μ (s + 14) 2 0) (s + 14) 3 (gUp μ (s + 14) 2 0 5 2 - 1) = μa
  have oa : ∀ a, a ≠ s + 14 → μa a = μ a := fun a h1 => by rw [← ea, zUp_ne _ h1, zUp_ne _ h1]
  have ra : RNG s cg μa := by
    unfold RNG
    rw [← ea, zUp_slot _ (by decide), zUp_same, zUp_same, zUp_ne _ (by omega), nc.2.1.2.2.1]
    exact ⟨rfl, iS (tN (m := cg) (by have := nc.1; omega)) (iL (1) (1) rfl) (by have := nc.1; omega) (by have := nc.1; omega)⟩
  obtain ⟨μb, eb, fb, b0, b5, b1, b3, b31, bg, bi⟩ := cClear34 (μ := μa) hs
  have nb : NET μb ξ := nt.fr (fun a h1 h2 => by rw [fb a (by omega) (by omega) (by omega) (by omega) (by omega) (by omega) (by omega) (by omega) (by omega) (by omega), oa a (by omega)]) rfl
  obtain ⟨μc, ec, fc, qc⟩ := cCuts_l (ξ := ξ) hs 100000 0 (gUp μb s 2 0) (nb.fr (fun a h1 h2 => zUp_ne _ (by omega)) rfl) (by omega) (by decide)
  have ec' : fX10_setCuts s 0 μb = some μc := by
    unfold fX10_setCuts
    rw [zLt_eq]
    exact ec
  have oc : ∀ a, a ≠ s → a ≠ s + 10 → a ≠ s + 11 → μc a = μb a := fun a h1 h2 h3 => by rw [fc a h2 h3, zUp_ne _ h1]
  have sc : ∀ i, i ≠ 2 → μc s i = μb s i := fun i hi => by rw [fc s (by omega) (by omega), zUp_slot _ hi]
  have sc2 : μc s 2 = 0 := by rw [fc s (by omega) (by omega), zUp_same]
  have m50 : μc 5 0 = nI cn := by rw [oc 5 (by omega) (by omega) (by omega), fb 5 (by omega) (by omega) (by omega) (by omega) (by omega) (by omega) (by omega) (by omega) (by omega) (by omega), oa 5 (by omega)]; exact nc.2.1.1
  obtain ⟨ζ1, s1, h1a, h1b, -⟩ := mSt2 100000 0 ξ (by decide) (by decide)
  obtain ⟨ζ2, s2, h2a, h2b, h2c⟩ := mSt32 100000 0 (gUp ζ1 272 9 1) (by decide) (by decide)
  have x269 : ζ2 269 = ξ 269 := by rw [h2a 269 (by decide), zUp_ne _ (by decide), h1a 269 (by decide)]
  generalize eM : ((1 : Int32) <<< (nI cn &&& 31)) - (1 : Int32) = M at *
  have hM : ∀ i, i < 6 → bt M i = decide (i < cn) := fun i hi => by rw [← eM]; exact bt_msk cn b6 i (by omega)
  rw [eb, zBd_some, ec', zBd_some, m50, eM]
  unfold fX10_raise
  rw [zLt_eq, sc 1 (by decide), b0 1 (by decide) (by decide), Int32.zero_or]
  have ez : fX12_starts_l2 100000 (0 : Int32) ξ = fX12_starts_l2 100000 (nI 0) ξ := by rw [z32]
  rw [ez, s1, s2, x269, nc.2.2.1, eM]
  generalize ed : gUp μc s 1 M = μd
  generalize ex : gUp ζ2 272 1 M = ξd
  have od : ∀ a, a ≠ s → μd a = μc a := fun a ha => by rw [← ed, zUp_ne _ ha]
  have sd : ∀ i, i ≠ 1 → μd s i = μc s i := fun i hi => by rw [← ed, zUp_slot _ hi]
  have sd1 : μd s 1 = M := by rw [← ed, zUp_same]
  have od' : ∀ a, a < s ∨ s + 14 < a → μd a = μ a := fun a ha => by rw [od a (by omega), oc a (by omega) (by omega) (by omega), fb a (by omega) (by omega) (by omega) (by omega) (by omega) (by omega) (by omega) (by omega) (by omega) (by omega), oa a (by omega)]
  have ox : ∀ a, a ≠ 272 → ξd a = ξ a := fun a ha => by rw [← ex, zUp_ne _ ha, h2a a ha, zUp_ne _ ha, h1a a ha]
  have x1 : ξd 272 1 = M := by rw [← ex, zUp_same]
  have xz : ∀ i, i ≠ 1 → i ≠ 9 → i < 10 ∨ 40 ≤ i → i < 490 → ξd 272 i = 0 := fun i h1 h9 h2 h3 => by rw [← ex, zUp_slot _ h1, h2c i (by omega), zUp_slot _ h9, h1b i (Nat.zero_le _) h3]
  have x9 : ξd 272 9 = 1 := by rw [← ex, zUp_slot _ (by decide), h2c 9 (by omega), zUp_same]
  have xw : ∀ i, i < 30 → ξd 272 (10 + i) = ξ 269 (53 + i) := fun i hi => by rw [← ex, zUp_slot _ (by omega), h2b i (Nat.zero_le _) hi, zUp_ne _ (by decide), h1a 269 (by decide)]
  have nd : NET μd ξd := nt.fr (fun a h1 h2 => od' a (by omega)) (ox 269 (by decide))
  have ncd : NC μd ξd cn cl cg ct := by
    unfold NC at *
    rw [od' 5 (by omega), od' 4 (by omega), ox 269 (by decide)]
    exact nc
  have d5 : ∀ g, g < 5 → μd (s + 5) g = 0 := fun g hg => by rw [od _ (by omega), oc _ (by omega) (by omega) (by omega)]; exact (bg g hg).1
  have ctx : CTX s True (μd (s + 14) 4 - ξd 267 22) μd ξd := by
    refine ⟨nd, ⟨?_, ?_, ?_, ?_, ?_, ?_, ?_⟩, fun g k m => ?_, ?_, ?_, fun _ => ⟨?_, ?_, ?_, addSub _ _⟩⟩
    · rw [sd 0 (by decide), sc 0 (by decide), b0 0 (by decide) (by decide), xz 0 (by decide) (by decide) (by decide) (by decide)]
    · rw [sd1, x1]
    · rw [sd 2 (by decide), sc2, xz 2 (by decide) (by decide) (by decide) (by decide)]
    · rw [sd 3 (by decide), sc 3 (by decide), b0 3 (by decide) (by decide), xz 3 (by decide) (by decide) (by decide) (by decide)]
    · rw [sd 4 (by decide), sc 4 (by decide), b0 4 (by decide) (by decide), xz 4 (by decide) (by decide) (by decide) (by decide)]
    · rw [sd 5 (by decide), sc 5 (by decide), b5, x9]
    · rw [x9]; decide
    · rw [ox 269 (by decide)] at m
      have hg := m.1
      have hk := m.2.1
      obtain ⟨w1, -, w3, -, -⟩ := nt.2.2.1 g k hg hk (nt.mb m)
      obtain ⟨v1, v2⟩ := (qc g k hg hk).2 (Nat.zero_le _)
      have t9 : μc (s + 9) (6 * g + k) = ξ 269 (53 + (6 * g + k)) := by rw [oc _ (by omega) (by omega) (by omega), (bi (6 * g + k) (by omega)).1, oa 12 (by omega), w1]
      have t9' : gUp μb s 2 0 (s + 9) (6 * g + k) = ξ 269 (53 + (6 * g + k)) := by rw [zUp_ne _ (by omega), (bi (6 * g + k) (by omega)).1, oa 12 (by omega), w1]
      rw [zUp_same, t9'] at v1 v2
      have g7 := (nt.gr nc (nt.mlt nc m).2).1
      rw [od _ (by omega), od _ (by omega), od _ (by omega), t9, xw _ (by omega), v1, v2, ox 269 (by decide), xz 2 (by decide) (by decide) (by decide) (by decide)]
      refine ⟨rfl, w3.1, rfl, ?_⟩
      unfold wgt sv
      rw [zUp_ne _ (show (7 : Nat) ≠ s by omega), fb 7 (by omega) (by omega) (by omega) (by omega) (by omega) (by omega) (by omega) (by omega) (by omega) (by omega), oa 7 (by omega), g7]
    · rw [od _ (by omega), oc _ (by omega) (by omega) (by omega), b3, b31, oa _ (by omega)]
      exact ⟨⟨by decide, by decide⟩, lg⟩
    · rw [xz 7 (by decide) (by decide) (by decide) (by decide)]
      exact ⟨by decide, by decide⟩
    · refine ⟨(μ (s + 3) 1).toInt.toNat, 0, by omega, by decide, ?_, ?_, ?_, fun i j hi => absurd hi (by omega)⟩
      · rw [od _ (by omega), oc _ (by omega) (by omega) (by omega), b31, oa _ (by omega)]
        exact nI_of' (by omega)
      · rw [od _ (by omega), oc _ (by omega) (by omega) (by omega), b3]; rfl
      · rw [xz 7 (by decide) (by decide) (by decide) (by decide)]; rfl
    · rw [sd 6 (by decide), sc 6 (by decide), b0 6 (by decide) (by decide), xz 5 (by decide) (by decide) (by decide) (by decide)]
    · rw [sd 7 (by decide), sc 7 (by decide), b0 7 (by decide) (by decide), xz 6 (by decide) (by decide) (by decide) (by decide)]
  have gs : ∀ g', g' < 5 → GRP s g' (fun _ => 0 ≤ g') l0 μd ξd := fun g hg => by
    refine ⟨fun k m w => absurd (Nat.zero_le _) w, fun k hk _ => ⟨xz _ (by omega) (by omega) (by omega) (by omega), by rw [d5 g hg, bt_zero]⟩, fun k h1 h2 => by rw [d5 g hg, bt_zero], ?_⟩
    rw [od _ (by omega), oc _ (by omega) (by omega) (by omega), (bg g hg).2.2.2, xz _ (by omega) (by omega) (by omega) (by omega)]
  obtain ⟨μ', ξ', y1, y2, y3, y4, y5, y6, y7⟩ := pStart_g hs hM 100000 0 μd ξd ctx ncd gs (fun g' _ hg j _ => by rw [d5 g' hg, bt_zero]) (fun j hj => by rw [x1, hM j (by omega), decide_eq_true hj]) (Nat.zero_le _) (by decide)
  have ey : fX10_raise_l15 s 100000 M (0 : Int32) μd = fX10_raise_l15 s 100000 M (nI 0) μd := by rw [z32]
  rw [ey, y1, zBd_some, y2]
  have t0 : ξ' 272 0 = 0 := by rw [y6.2.2 0 (by decide), xz 0 (by decide) (by decide) (by decide) (by decide)]
  refine ⟨_, μ', ξ', rfl, rfl, ⟨⟨y3, y4, fun g hg => ?_⟩, ncd.af hs y5 y6, ⟨by decide, ?_, ?_, fun i hi => absurd hi (by omega), fun k hk => absurd hk (by omega), fun k hk => absurd hk (by omega)⟩, ?_, 0, Nat.le_refl _, ?_, fun k hk => absurd hk (by omega), fun k _ hk => absurd hk (by omega)⟩, by unfold tkI; rw [t0]; rfl, fun a ha => by rw [y5.1 a (by omega), od' a ha], fun a h1 h2 h3 => by rw [y6.1 a h1 h2 h3, ox a h2], fun i hi => by rw [y6.2.1 i hi, ox 267 (by decide)]⟩
  · unfold CN
    rw [y5.1 (s + 6) (by omega), y5.1 (s + 7) (by omega), y6.2.2 _ (by omega), y6.2.2 _ (by omega), od _ (by omega), od _ (by omega), oc _ (by omega) (by omega) (by omega), oc _ (by omega) (by omega) (by omega), (bg g hg).2.1, (bg g hg).2.2.1, xz _ (by omega) (by omega) (by omega) (by omega), xz _ (by omega) (by omega) (by omega) (by omega)]
    exact ⟨rfl, rfl⟩
  · rw [y5.1 (s + 1) (by omega), od _ (by omega), oc _ (by omega) (by omega) (by omega), b1]; rfl
  · rw [y6.2.2 8 (by decide), xz 8 (by decide) (by decide) (by decide) (by decide)]; rfl
  · unfold RNG
    rw [y5.2.1 2 (by decide), y5.2.1 3 (by decide), od _ (by omega), oc _ (by omega) (by omega) (by omega), fb _ (by omega) (by omega) (by omega) (by omega) (by omega) (by omega) (by omega) (by omega) (by omega) (by omega)]
    exact ra
  · rw [y5.2.2 8 (by decide) (by decide) (by decide) (by decide), sd 8 (by decide), sc 8 (by decide), b0 8 (by decide) (by decide)]; rfl
