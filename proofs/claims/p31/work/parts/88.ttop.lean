/-! what changes the tape's length: feed, end, net, plan -/
theorem zH_and {α : Type} {m : Option α} {P Q : α → Prop} (h : zH m P) (g : zH m Q) : zH m (fun a => P a ∧ Q a) := by
  obtain ⟨a, e, p⟩ := h
  obtain ⟨b, e', q⟩ := g
  rw [e] at e'
  cases e'
  exact ⟨a, e, p, q⟩
theorem J.sl {L : Int32} {M μ : gM} (h : J false L M μ) {v : Int32} (h0 : 0 ≤ v.toInt) (h1 : v.toInt ≤ 1500) : J false v M (gUp μ 1 2 v) := by
  refine ⟨fun a ha i => ?_, fun q hq hq' hq2 => ?_, zUp_same _ _ _ _, fun a ha => ?_⟩
  · rw [zUp_at]
    by_cases e : a = 1
    · subst e
      rw [if_pos rfl]
      by_cases e2 : i = 2
      · subst e2; rw [if_pos rfl]; exact ⟨h0, h1⟩
      · rw [if_neg e2]; exact h.1 1 ha i
    · rw [if_neg e]; exact h.1 a ha i
  · have e1 : q ≠ 1 := fun e => by subst e; exact absurd hq' (by decide)
    have e2 : q + 1 ≠ 1 := fun e => by
      have : q = 0 := by omega
      subst this
      exact absurd hq' (by decide)
    have := h.2.1 q hq hq' hq2
    unfold PR at *
    rw [zUp_ne _ e1, zUp_ne _ e2]
    exact this
  · rw [zUp_ne _ (fun e => (fx0 (a := a) (by omega) (by omega)).2 ha)]; exact h.2.2.2 a ha
theorem fr5 {p q : Nat} {μ : gM} : zH (fX5_copyFrom p q μ) (fun ν => ∀ a, a ≠ p → a ≠ p + 1 → ν a = μ a) := by
  unfold fX5_copyFrom
  refine zH_lt (fun μ1 e1 => ?_)
  refine zH_lt (fun μ2 e2 => ?_)
  exact zH_some (fun a h1 h2 => by rw [e2, zCp_ne _ h2, e1, zUp_ne _ h1])
theorem fr0 {p q : Nat} {μ : gM} : zH (fX0_copyFrom p q μ) (fun ν => ∀ a, a ≠ p → a ≠ p + 1 → ν a = μ a) := by
  unfold fX0_copyFrom
  refine zH_lt (fun μ1 e1 => ?_)
  refine zH_lt (fun μ2 e2 => ?_)
  refine zH_lt (fun μ3 e3 => ?_)
  exact zH_some (fun a h1 h2 => by rw [e3, zCp_ne _ h2, e2, zUp_ne _ h1, e1, zUp_ne _ h1])
theorem frN {p q : Nat} {μ : gM} : zH (fX9_copyNumbers p q μ) (fun ν => ∀ a, a ≠ p → ν a = μ a) := by
  unfold fX9_copyNumbers
  refine zH_lt (fun μ1 e1 => ?_)
  refine zH_lt (fun μ2 e2 => ?_)
  refine zH_lt (fun μ3 e3 => ?_)
  refine zH_lt (fun μ4 e4 => ?_)
  refine zH_lt (fun μ5 e5 => ?_)
  refine zH_lt (fun μ6 e6 => ?_)
  refine zH_lt (fun μ7 e7 => ?_)
  refine zH_lt (fun μ8 e8 => ?_)
  refine zH_lt (fun μ9 e9 => ?_)
  exact zH_some (fun a h => by rw [e9, zUp_ne _ h, e8, zUp_ne _ h, e7, zUp_ne _ h, e6, zUp_ne _ h, e5, zUp_ne _ h, e4, zUp_ne _ h, e3, zUp_ne _ h, e2, zUp_ne _ h, e1, zUp_ne _ h])
theorem fr9 {p q : Nat} {μ : gM} : zH (fX9_copyFrom p q μ) (fun ν => ∀ a, ¬ (p ≤ a ∧ a ≤ p + 13) → ν a = μ a) := by
  unfold fX9_copyFrom
  refine zH_bd frN (fun μ1 e1 => ?_)
  refine zH_bd fr5 (fun μ2 e2 => ?_)
  refine zH_bd fr0 (fun μ3 e3 => ?_)
  refine zH_lt (fun μ4 e4 => ?_)
  refine zH_lt (fun μ5 e5 => ?_)
  refine zH_lt (fun μ6 e6 => ?_)
  refine zH_lt (fun μ7 e7 => ?_)
  refine zH_lt (fun μ8 e8 => ?_)
  refine zH_lt (fun μ9 e9 => ?_)
  refine zH_lt (fun μ10 e10 => ?_)
  refine zH_lt (fun μ11 e11 => ?_)
  refine zH_lt (fun μ12 e12 => ?_)
  exact zH_some (fun a h => by rw [e12, zCp_ne _ (by omega), e11, zCp_ne _ (by omega), e10, zCp_ne _ (by omega), e9, zCp_ne _ (by omega), e8, zCp_ne _ (by omega), e7, zCp_ne _ (by omega), e6, zCp_ne _ (by omega), e5, zCp_ne _ (by omega), e4, zCp_ne _ (by omega), e3 a (by omega) (by omega), e2 a (by omega) (by omega), e1 a (by omega)])
theorem fr4_n22 {p : Nat} {z : Int32} {μ : gM} : (∃ ν, fX4_save_n22 p z μ = some ν) → zH (fX4_save_n22 p z μ) (fun ν => ∀ a, a < 49 → ν a = μ a) := by
  rintro ⟨ν, hν⟩
  refine ⟨ν, hν, fun a ha => ?_⟩
  unfold fX4_save_n22 at hν
  have h1 := hν
  simp only [zLt] at h1
  unfold zCk at h1
  split at h1
  · obtain ⟨x, hx, h2⟩ := zBd_s h1
    cases h2
    obtain ⟨y, hy, h3⟩ := fr9 (p := 52 + 14 * ((gUp (gUp μ 49 3 z) 49 2 (zMn (gUp μ 49 3 z 49 2 + 1) 12) 49 3).toNatClampNeg)) (q := p) (μ := gUp (gUp μ 49 3 z) 49 2 (zMn (gUp μ 49 3 z 49 2 + 1) 12))
    rw [hx] at hy
    cases hy
    rw [h3 a (by omega), zUp_ne _ (by omega), zUp_ne _ (by omega)]
  · cases h1
theorem fr4 {p : Nat} {μ : gM} (h : ∃ ν, fX4_save p μ = some ν) : zH (fX4_save p μ) (fun ν => ∀ a, a < 49 → ν a = μ a) := by
  unfold fX4_save at *
  by_cases c : (12 : Int32) ≤ μ 49 3 + 1
  · rw [if_pos c] at *; exact fr4_n22 h
  · rw [if_neg c] at *; exact fr4_n22 h
theorem cp1 {μ : gM} : zH (fX1_copyFrom 4 18 μ) (fun ν => (∀ a, ¬ (4 ≤ a ∧ a ≤ 16) → ν a = μ a) ∧ (ν 4 10 = μ 18 10 ∧ ν 4 0 = μ 4 0) ∧ ν 5 = va_cpy (μ 19) (μ 5) 0 0 3 ∧ ν 6 = va_cpy (μ 20) (μ 6) 0 0 24 ∧ ν 7 = va_cpy (μ 21) (μ 7) 0 0 5 ∧ ν 8 = va_cpy (μ 22) (μ 8) 0 0 5 ∧ ν 9 = va_cpy (μ 23) (μ 9) 0 0 5 ∧ ν 10 = va_cpy (μ 24) (μ 10) 0 0 5 ∧ ν 11 = va_cpy (μ 25) (μ 11) 0 0 5 ∧ ν 12 = va_cpy (μ 26) (μ 12) 0 0 30 ∧ ν 13 = va_cpy (μ 27) (μ 13) 0 0 30 ∧ ν 14 = va_cpy (μ 28) (μ 14) 0 0 24 ∧ ν 15 = va_cpy (μ 29) (μ 15) 0 0 24 ∧ ν 16 = va_cpy (μ 30) (μ 16) 0 0 24) := by
  unfold fX1_copyFrom
  simp only [Nat.reduceAdd]
  refine zH_lt (fun μ1 e1 => ?_)
  refine zH_lt (fun μ2 e2 => ?_)
  refine zH_lt (fun μ3 e3 => ?_)
  refine zH_lt (fun μ4 e4 => ?_)
  refine zH_lt (fun μ5 e5 => ?_)
  refine zH_lt (fun μ6 e6 => ?_)
  refine zH_lt (fun μ7 e7 => ?_)
  refine zH_lt (fun μ8 e8 => ?_)
  refine zH_lt (fun μ9 e9 => ?_)
  refine zH_lt (fun μ10 e10 => ?_)
  refine zH_lt (fun μ11 e11 => ?_)
  refine zH_lt (fun μ12 e12 => ?_)
  refine zH_lt (fun μ13 e13 => ?_)
  have g1 : ∀ b, b ≠ 5 → μ1 b = μ b := fun b h5 => by rw [e1, zCp_ne _ h5]
  have g2 : ∀ b, b ≠ 5 → b ≠ 6 → μ2 b = μ b := fun b h5 h6 => by rw [e2, zCp_ne _ h6]; exact g1 b h5
  have g3 : ∀ b, b ≠ 5 → b ≠ 6 → b ≠ 7 → μ3 b = μ b := fun b h5 h6 h7 => by rw [e3, zCp_ne _ h7]; exact g2 b h5 h6
  have g4 : ∀ b, b ≠ 5 → b ≠ 6 → b ≠ 7 → b ≠ 8 → μ4 b = μ b := fun b h5 h6 h7 h8 => by rw [e4, zCp_ne _ h8]; exact g3 b h5 h6 h7
  have g5 : ∀ b, b ≠ 5 → b ≠ 6 → b ≠ 7 → b ≠ 8 → b ≠ 9 → μ5 b = μ b := fun b h5 h6 h7 h8 h9 => by rw [e5, zCp_ne _ h9]; exact g4 b h5 h6 h7 h8
  have g6 : ∀ b, b ≠ 5 → b ≠ 6 → b ≠ 7 → b ≠ 8 → b ≠ 9 → b ≠ 10 → μ6 b = μ b := fun b h5 h6 h7 h8 h9 h10 => by rw [e6, zCp_ne _ h10]; exact g5 b h5 h6 h7 h8 h9
  have g7 : ∀ b, b ≠ 5 → b ≠ 6 → b ≠ 7 → b ≠ 8 → b ≠ 9 → b ≠ 10 → b ≠ 11 → μ7 b = μ b := fun b h5 h6 h7 h8 h9 h10 h11 => by rw [e7, zCp_ne _ h11]; exact g6 b h5 h6 h7 h8 h9 h10
  have g8 : ∀ b, b ≠ 5 → b ≠ 6 → b ≠ 7 → b ≠ 8 → b ≠ 9 → b ≠ 10 → b ≠ 11 → b ≠ 12 → μ8 b = μ b := fun b h5 h6 h7 h8 h9 h10 h11 h12 => by rw [e8, zCp_ne _ h12]; exact g7 b h5 h6 h7 h8 h9 h10 h11
  have g9 : ∀ b, b ≠ 5 → b ≠ 6 → b ≠ 7 → b ≠ 8 → b ≠ 9 → b ≠ 10 → b ≠ 11 → b ≠ 12 → b ≠ 13 → μ9 b = μ b := fun b h5 h6 h7 h8 h9 h10 h11 h12 h13 => by rw [e9, zCp_ne _ h13]; exact g8 b h5 h6 h7 h8 h9 h10 h11 h12
  have g10 : ∀ b, b ≠ 5 → b ≠ 6 → b ≠ 7 → b ≠ 8 → b ≠ 9 → b ≠ 10 → b ≠ 11 → b ≠ 12 → b ≠ 13 → b ≠ 4 → μ10 b = μ b := fun b h5 h6 h7 h8 h9 h10 h11 h12 h13 h4 => by rw [e10, zUp_ne _ h4]; exact g9 b h5 h6 h7 h8 h9 h10 h11 h12 h13
  have g11 : ∀ b, b ≠ 5 → b ≠ 6 → b ≠ 7 → b ≠ 8 → b ≠ 9 → b ≠ 10 → b ≠ 11 → b ≠ 12 → b ≠ 13 → b ≠ 4 → b ≠ 14 → μ11 b = μ b := fun b h5 h6 h7 h8 h9 h10 h11 h12 h13 h4 h14 => by rw [e11, zCp_ne _ h14]; exact g10 b h5 h6 h7 h8 h9 h10 h11 h12 h13 h4
  have g12 : ∀ b, b ≠ 5 → b ≠ 6 → b ≠ 7 → b ≠ 8 → b ≠ 9 → b ≠ 10 → b ≠ 11 → b ≠ 12 → b ≠ 13 → b ≠ 4 → b ≠ 14 → b ≠ 15 → μ12 b = μ b := fun b h5 h6 h7 h8 h9 h10 h11 h12 h13 h4 h14 h15 => by rw [e12, zCp_ne _ h15]; exact g11 b h5 h6 h7 h8 h9 h10 h11 h12 h13 h4 h14
  have g13 : ∀ b, b ≠ 5 → b ≠ 6 → b ≠ 7 → b ≠ 8 → b ≠ 9 → b ≠ 10 → b ≠ 11 → b ≠ 12 → b ≠ 13 → b ≠ 4 → b ≠ 14 → b ≠ 15 → b ≠ 16 → μ13 b = μ b := fun b h5 h6 h7 h8 h9 h10 h11 h12 h13 h4 h14 h15 h16 => by rw [e13, zCp_ne _ h16]; exact g12 b h5 h6 h7 h8 h9 h10 h11 h12 h13 h4 h14 h15
  have v5 : μ1 5 = va_cpy (μ 19) (μ 5) 0 0 3 := by rw [e1, zCp_same]; rfl
  have v6 : μ2 6 = va_cpy (μ 20) (μ 6) 0 0 24 := by rw [e2, zCp_same, g1 20 (by decide), g1 6 (by decide)]; rfl
  have v7 : μ3 7 = va_cpy (μ 21) (μ 7) 0 0 5 := by rw [e3, zCp_same, g2 21 (by decide) (by decide), g2 7 (by decide) (by decide)]; rfl
  have v8 : μ4 8 = va_cpy (μ 22) (μ 8) 0 0 5 := by rw [e4, zCp_same, g3 22 (by decide) (by decide) (by decide), g3 8 (by decide) (by decide) (by decide)]; rfl
  have v9 : μ5 9 = va_cpy (μ 23) (μ 9) 0 0 5 := by rw [e5, zCp_same, g4 23 (by decide) (by decide) (by decide) (by decide), g4 9 (by decide) (by decide) (by decide) (by decide)]; rfl
  have v10 : μ6 10 = va_cpy (μ 24) (μ 10) 0 0 5 := by rw [e6, zCp_same, g5 24 (by decide) (by decide) (by decide) (by decide) (by decide), g5 10 (by decide) (by decide) (by decide) (by decide) (by decide)]; rfl
  have v11 : μ7 11 = va_cpy (μ 25) (μ 11) 0 0 5 := by rw [e7, zCp_same, g6 25 (by decide) (by decide) (by decide) (by decide) (by decide) (by decide), g6 11 (by decide) (by decide) (by decide) (by decide) (by decide) (by decide)]; rfl
  have v12 : μ8 12 = va_cpy (μ 26) (μ 12) 0 0 30 := by rw [e8, zCp_same, g7 26 (by decide) (by decide) (by decide) (by decide) (by decide) (by decide) (by decide), g7 12 (by decide) (by decide) (by decide) (by decide) (by decide) (by decide) (by decide)]; rfl
  have v13 : μ9 13 = va_cpy (μ 27) (μ 13) 0 0 30 := by rw [e9, zCp_same, g8 27 (by decide) (by decide) (by decide) (by decide) (by decide) (by decide) (by decide) (by decide), g8 13 (by decide) (by decide) (by decide) (by decide) (by decide) (by decide) (by decide) (by decide)]; rfl
  have v4 : μ10 4 10 = μ 18 10 ∧ μ10 4 0 = μ 4 0 := ⟨by rw [e10, zUp_same, g9 18 (by decide) (by decide) (by decide) (by decide) (by decide) (by decide) (by decide) (by decide) (by decide)], by rw [e10, zUp_slot _ (by decide), g9 4 (by decide) (by decide) (by decide) (by decide) (by decide) (by decide) (by decide) (by decide) (by decide)]⟩
  have v14 : μ11 14 = va_cpy (μ 28) (μ 14) 0 0 24 := by rw [e11, zCp_same, g10 28 (by decide) (by decide) (by decide) (by decide) (by decide) (by decide) (by decide) (by decide) (by decide) (by decide), g10 14 (by decide) (by decide) (by decide) (by decide) (by decide) (by decide) (by decide) (by decide) (by decide) (by decide)]; rfl
  have v15 : μ12 15 = va_cpy (μ 29) (μ 15) 0 0 24 := by rw [e12, zCp_same, g11 29 (by decide) (by decide) (by decide) (by decide) (by decide) (by decide) (by decide) (by decide) (by decide) (by decide) (by decide), g11 15 (by decide) (by decide) (by decide) (by decide) (by decide) (by decide) (by decide) (by decide) (by decide) (by decide) (by decide)]; rfl
  have v16 : μ13 16 = va_cpy (μ 30) (μ 16) 0 0 24 := by rw [e13, zCp_same, g12 30 (by decide) (by decide) (by decide) (by decide) (by decide) (by decide) (by decide) (by decide) (by decide) (by decide) (by decide) (by decide), g12 16 (by decide) (by decide) (by decide) (by decide) (by decide) (by decide) (by decide) (by decide) (by decide) (by decide) (by decide) (by decide)]; rfl
  have w4 : μ13 4 = μ10 4 := by rw [e13, zCp_ne _ (by decide), e12, zCp_ne _ (by decide), e11, zCp_ne _ (by decide)]
  have w5 : μ13 5 = μ1 5 := by rw [e13, zCp_ne _ (by decide), e12, zCp_ne _ (by decide), e11, zCp_ne _ (by decide), e10, zUp_ne _ (by decide), e9, zCp_ne _ (by decide), e8, zCp_ne _ (by decide), e7, zCp_ne _ (by decide), e6, zCp_ne _ (by decide), e5, zCp_ne _ (by decide), e4, zCp_ne _ (by decide), e3, zCp_ne _ (by decide), e2, zCp_ne _ (by decide)]
  have w6 : μ13 6 = μ2 6 := by rw [e13, zCp_ne _ (by decide), e12, zCp_ne _ (by decide), e11, zCp_ne _ (by decide), e10, zUp_ne _ (by decide), e9, zCp_ne _ (by decide), e8, zCp_ne _ (by decide), e7, zCp_ne _ (by decide), e6, zCp_ne _ (by decide), e5, zCp_ne _ (by decide), e4, zCp_ne _ (by decide), e3, zCp_ne _ (by decide)]
  have w7 : μ13 7 = μ3 7 := by rw [e13, zCp_ne _ (by decide), e12, zCp_ne _ (by decide), e11, zCp_ne _ (by decide), e10, zUp_ne _ (by decide), e9, zCp_ne _ (by decide), e8, zCp_ne _ (by decide), e7, zCp_ne _ (by decide), e6, zCp_ne _ (by decide), e5, zCp_ne _ (by decide), e4, zCp_ne _ (by decide)]
  have w8 : μ13 8 = μ4 8 := by rw [e13, zCp_ne _ (by decide), e12, zCp_ne _ (by decide), e11, zCp_ne _ (by decide), e10, zUp_ne _ (by decide), e9, zCp_ne _ (by decide), e8, zCp_ne _ (by decide), e7, zCp_ne _ (by decide), e6, zCp_ne _ (by decide), e5, zCp_ne _ (by decide)]
  have w9 : μ13 9 = μ5 9 := by rw [e13, zCp_ne _ (by decide), e12, zCp_ne _ (by decide), e11, zCp_ne _ (by decide), e10, zUp_ne _ (by decide), e9, zCp_ne _ (by decide), e8, zCp_ne _ (by decide), e7, zCp_ne _ (by decide), e6, zCp_ne _ (by decide)]
  have w10 : μ13 10 = μ6 10 := by rw [e13, zCp_ne _ (by decide), e12, zCp_ne _ (by decide), e11, zCp_ne _ (by decide), e10, zUp_ne _ (by decide), e9, zCp_ne _ (by decide), e8, zCp_ne _ (by decide), e7, zCp_ne _ (by decide)]
  have w11 : μ13 11 = μ7 11 := by rw [e13, zCp_ne _ (by decide), e12, zCp_ne _ (by decide), e11, zCp_ne _ (by decide), e10, zUp_ne _ (by decide), e9, zCp_ne _ (by decide), e8, zCp_ne _ (by decide)]
  have w12 : μ13 12 = μ8 12 := by rw [e13, zCp_ne _ (by decide), e12, zCp_ne _ (by decide), e11, zCp_ne _ (by decide), e10, zUp_ne _ (by decide), e9, zCp_ne _ (by decide)]
  have w13 : μ13 13 = μ9 13 := by rw [e13, zCp_ne _ (by decide), e12, zCp_ne _ (by decide), e11, zCp_ne _ (by decide), e10, zUp_ne _ (by decide)]
  have w14 : μ13 14 = μ11 14 := by rw [e13, zCp_ne _ (by decide), e12, zCp_ne _ (by decide)]
  have w15 : μ13 15 = μ12 15 := by rw [e13, zCp_ne _ (by decide)]
  exact zH_some ⟨fun b hb => g13 b (by omega) (by omega) (by omega) (by omega) (by omega) (by omega) (by omega) (by omega) (by omega) (by omega) (by omega) (by omega) (by omega), by rw [w4]; exact v4, w5.trans v5, w6.trans v6, w7.trans v7, w8.trans v8, w9.trans v9, w10.trans v10, w11.trans v11, w12.trans v12, w13.trans v13, w14.trans v14, w15.trans v15, v16⟩
/-- a net laid over the class's: the frame is told anew there -/
def nM (M ν : gM) : gM := fun a => if 4 ≤ a ∧ a ≤ 16 then ν a else M a
theorem J.net {L : Int32} {M μ ν : gM} (h : J false L M μ) (hf : ∀ a, ¬ (4 ≤ a ∧ a ≤ 16) → ν a = μ a) (hb : NB 4 ν) : J false L (nM M ν) ν := by
  refine ⟨fun a ha i => ?_, fun q hq hq' hq2 => ?_, by rw [hf 1 (by omega)]; exact h.2.2.1, fun a ha => ?_⟩
  · by_cases e : 4 ≤ a ∧ a ≤ 16
    · have : a = 4 ∨ a = 5 ∨ a = 6 ∨ a = 7 ∨ a = 8 ∨ a = 9 ∨ a = 10 ∨ a = 11 ∨ a = 12 ∨ a = 13 ∨ a = 14 ∨ a = 15 ∨ a = 16 := by omega
      rcases this with rfl | rfl | rfl | rfl | rfl | rfl | rfl | rfl | rfl | rfl | rfl | rfl | rfl
      · match i with
        | 10 => exact hb.2.2.2
        | 0 => exact i32b _
        | 1 => exact i32b _
        | 2 => exact i32b _
        | 3 => exact i32b _
        | 4 => exact i32b _
        | 5 => exact i32b _
        | 6 => exact i32b _
        | 7 => exact i32b _
        | 8 => exact i32b _
        | 9 => exact i32b _
        | i + 11 => exact i32b _
      · match i with
        | 0 => exact hb.1
        | 1 => exact hb.2.1
        | 2 => exact hb.2.2.1
        | i + 3 => exact i32b _
      all_goals exact i32b _
    · rw [hf a e]; exact h.1 a ha i
  · have e1 : ¬ (4 ≤ q ∧ q ≤ 16) := fun e => by
      have : q = 4 ∨ q = 5 ∨ q = 6 ∨ q = 7 ∨ q = 8 ∨ q = 9 ∨ q = 10 ∨ q = 11 ∨ q = 12 ∨ q = 13 ∨ q = 14 ∨ q = 15 ∨ q = 16 := by omega
      rcases this with rfl | rfl | rfl | rfl | rfl | rfl | rfl | rfl | rfl | rfl | rfl | rfl | rfl <;> exact absurd hq' (by decide)
    have e2 : ¬ (4 ≤ q + 1 ∧ q + 1 ≤ 16) := fun e => by
      have : q = 3 := by omega
      subst this
      exact absurd hq' (by decide)
    have := h.2.1 q hq hq' hq2
    unfold PR at *
    rw [hf q e1, hf (q + 1) e2]
    exact this
  · unfold nM
    by_cases e : 4 ≤ a ∧ a ≤ 16
    · rw [if_pos e]
    · rw [if_neg e, hf a e]; exact h.2.2.2 a ha
/-- what net() leaves: all as it was where it is refused, else the draft laid over the net -/
def NQ (M : gM) (r : Int32 × gM) : Prop := ∃ M', J false 0 M' r.2 ∧ ∀ a, a = 2 ∨ a = 3 ∨ 267 ≤ a → M' a = M a
theorem net_go {M μ3 : gM} (h3 : J false 0 M μ3) : zH (zBd (fX1_copyFrom 4 18 μ3) (fun μ4 => zLt (gUp μ4 4 0 (1 : Int32)) (fun μ5 => zBd (fX4_forgetAll μ5) (fun μ6 => zBd (fX10_begin 34 μ6) (fun μ7 => (some ((μ7 5 2), μ7))))))) (fun r => ∃ μ5 : gM, J false 0 (nM M μ5) r.2 ∧ r.1 = r.2 5 2 ∧ (μ5 4 0 = 1 ∧ μ5 4 10 = μ3 18 10) ∧ μ5 5 = va_cpy (μ3 19) (μ3 5) 0 0 3 ∧ μ5 6 = va_cpy (μ3 20) (μ3 6) 0 0 24 ∧ μ5 7 = va_cpy (μ3 21) (μ3 7) 0 0 5 ∧ μ5 8 = va_cpy (μ3 22) (μ3 8) 0 0 5 ∧ μ5 9 = va_cpy (μ3 23) (μ3 9) 0 0 5 ∧ μ5 10 = va_cpy (μ3 24) (μ3 10) 0 0 5 ∧ μ5 11 = va_cpy (μ3 25) (μ3 11) 0 0 5 ∧ μ5 12 = va_cpy (μ3 26) (μ3 12) 0 0 30 ∧ μ5 13 = va_cpy (μ3 27) (μ3 13) 0 0 30 ∧ μ5 14 = va_cpy (μ3 28) (μ3 14) 0 0 24 ∧ μ5 15 = va_cpy (μ3 29) (μ3 15) 0 0 24 ∧ μ5 16 = va_cpy (μ3 30) (μ3 16) 0 0 24) := by
  have d := h3.nb18
  refine zH_bd cp1 (fun μ4 p4 => ?_)
  obtain ⟨f4, ⟨t4, u4⟩, v5, v⟩ := p4
  refine zH_lt (fun μ5 e5 => ?_)
  have w5 : ∀ a, a ≠ 4 → μ5 a = μ4 a := fun a ha => by rw [e5, zUp_ne _ ha]
  have t5 : μ5 4 10 = μ3 18 10 := by rw [e5, zUp_slot _ (by decide)]; exact t4
  have c5 : ∀ j, j < 3 → μ5 5 j = μ3 19 j := fun j hj => by
    rw [w5 5 (by decide), v5]
    unfold va_cpy
    rw [if_pos (by omega)]
    congr 1
    omega
  have b5 : NB 4 μ5 := by
    refine ⟨?_, ?_, ?_, ?_⟩
    · show 0 ≤ (μ5 5 0).toInt ∧ (μ5 5 0).toInt ≤ 6
      rw [c5 0 (by decide)]; exact d.1
    · show 0 ≤ (μ5 5 1).toInt ∧ (μ5 5 1).toInt ≤ 8
      rw [c5 1 (by decide)]; exact d.2.1
    · show 0 ≤ (μ5 5 2).toInt ∧ (μ5 5 2).toInt ≤ 5
      rw [c5 2 (by decide)]; exact d.2.2.1
    · rw [t5]; exact d.2.2.2
  have h5 : J false 0 (nM M μ5) μ5 := h3.net (fun a ha => by rw [w5 a (by omega)]; exact f4 a ha) b5
  refine zH_bd (tX4_forgetAll h5) (fun μ6 h6 => ?_)
  refine zH_bd (tX10_begin sW_34 h6) (fun μ7 h7 => ?_)
  refine zH_some ⟨μ5, h7, rfl, ⟨by rw [e5, zUp_same], t5⟩, ?_⟩
  rw [w5 5 (by decide), w5 6 (by decide), w5 7 (by decide), w5 8 (by decide), w5 9 (by decide), w5 10 (by decide), w5 11 (by decide), w5 12 (by decide), w5 13 (by decide), w5 14 (by decide), w5 15 (by decide), w5 16 (by decide)]
  exact ⟨v5, v⟩
theorem tX11_net {L : Int32} {M μ : gM} (h : J false L M μ) : zH (fX11_net μ) (NQ M) := by
  unfold fX11_net
  refine zH_bp (tX2_read h) (fun x1 μ2 p2 => ?_)
  refine zH_lt (fun μ3 e3 => ?_)
  have h3 : J false 0 M μ3 := by rw [e3]; exact J.sl p2.1 (by decide) (by decide)
  refine zH_ite (fun _ => zH_some ⟨M, h3, fun _ _ => rfl⟩) (fun _ => ?_)
  refine zH_mono (net_go h3) (fun r p => ?_)
  obtain ⟨μ5, h5, -⟩ := p
  exact ⟨_, h5, fun a ha => by unfold nM; rw [if_neg (by omega)]⟩
theorem tX11_plan {L : Int32} {M μ : gM} (h : J false L M μ) : zH (fX11_plan μ) (fun r => J false 0 M r.2) := by
  unfold fX11_plan
  refine zH_ite (fun _ => ?_) (fun _ => ?_)
  · refine zH_lt (fun μ3 e3 => ?_)
    exact zH_some (show J false 0 M μ3 by rw [e3]; exact J.sl h (by decide) (by decide))
  · refine zH_bp (tX6_read h) (fun x1 μ2 p2 => ?_)
    refine zH_lt (fun μ3 e3 => ?_)
    have h3 : J false 0 M μ3 := by rw [e3]; exact J.sl p2.1 (by decide) (by decide)
    refine zH_eqc (rfl : x1.toInt = _) (iL (0) (0) rfl) (fun _ _ => zH_some h3) (fun _ c => ?_)
    have hs := tX4_save (p1 := 34) sS_34 h3
    obtain ⟨ν, hν, _⟩ := id hs
    refine zH_bd (zH_and hs (fr4 ⟨ν, hν⟩)) (fun μ4 p4 => ?_)
    obtain ⟨h4, f4⟩ := p4
    have r4 : PR μ4 32 := by
      have := p2.2.2 c
      unfold PR at *
      rw [f4 32 (by decide), f4 (32 + 1) (by decide), e3, zUp_ne _ (by decide), zUp_ne _ (by decide)]
      exact this
    refine zH_bd (tX5_copyFrom (p := 35) (q := 32) h4 rfl (by decide) (by decide) rfl (by decide) r4) (fun μ5 h5 => ?_)
    have f5 : 0 ≤ (μ5 35 0).toInt ∧ (μ5 35 0).toInt ≤ 20 := h5.rd (a := 35) rfl (by decide) 0
    refine zH_bd (tX5_firstFrom f5.2) (fun x6 p6 => ?_)
    refine zH_lt (fun μ7 e7 => ?_)
    have b6 := i32b x6
    exact zH_some (show J false 0 M μ7 by rw [e7]; exact J.up h5 (a := 34) (k := (0, 9)) rfl (fx34 (by decide) (by decide)) (by decide) (by decide) (Or.inl (by decide)) ⟨p6, b6.2⟩)
theorem tX11_end {L : Int32} {M μ : gM} {a1 : Int32} (h : J false L M μ) : zH (fX11_end a1 μ) (fun r => ((0 ≤ a1.toInt ∧ a1.toInt ≤ L.toInt) → r.1 = 1 ∧ J false a1 M r.2) ∧ (¬ (0 ≤ a1.toInt ∧ a1.toInt ≤ L.toInt) → r.1 = 0 ∧ r.2 = μ)) := by
  have hl := h.len
  unfold fX11_end
  rw [h.2.2.1]
  refine zH_ltc (rfl : a1.toInt = _) (iL (0) (0) rfl) (fun c => zH_some ⟨fun w => absurd w (by omega), fun _ => ⟨rfl, rfl⟩⟩) (fun c => ?_)
  refine zH_lec (rfl : a1.toInt = _) (rfl : L.toInt = _) (fun c2 => ?_) (fun c2 => zH_some ⟨fun w => absurd w (by omega), fun _ => ⟨rfl, rfl⟩⟩)
  refine zH_lt (fun μ1 e1 => ?_)
  exact zH_some ⟨fun _ => ⟨rfl, show J false a1 M μ1 by rw [e1]; exact J.sl h c (by omega)⟩, fun w => absurd ⟨c, c2⟩ w⟩
