/-! copies of the class's states -/
def CPD (p q J : Nat) (μ ν : gM) : Prop := (∀ a, a < p ∨ p + 13 < a → ν a = μ a) ∧ ∀ j i, j < J → INR j i → ν (p + j) i = μ (q + j) i
theorem CPD.st {p q J n : Nat} {μ ν : gM} (h : CPD p q J μ ν) (dj : p + 13 < q ∨ q + 13 < p) (hJ : J ≤ 13) (hn : ∀ i, INR J i → i < n) : CPD p q (J + 1) μ (gCp ν (p + J) (va_cpy (ν (q + J)) (ν (p + J)) 0 0 n)) := by
  refine ⟨fun a ha => by rw [zCp_ne _ (by omega)]; exact h.1 a ha, fun j i hj hi => ?_⟩
  by_cases ej : j = J
  · subst ej
    rw [zCp_same, cpyAt (hn i hi), h.1 (q + j) (by omega)]
  · rw [zCp_ne _ (by omega)]
    exact h.2 j i (by omega) hi
theorem cNumbers {p q : Nat} {μ : gM} (dj : p + 13 < q ∨ q + 13 < p) : ∃ ν, fX9_copyNumbers p q μ = some ν ∧ CPD p q 1 μ ν ∧ ∀ a, a ≠ p → ν a = μ a := by
  have r : ∀ (ν : gM) (i : Nat) (v : Int32), gUp ν p i v q = ν q := fun ν i v => zUp_ne _ (by omega)
  unfold fX9_copyNumbers
  rw [zLt_eq, zLt_eq, zLt_eq, zLt_eq, zLt_eq, zLt_eq, zLt_eq, zLt_eq, zLt_eq]
  simp only [r]
  have o : ∀ a, a ≠ p → gUp (gUp (gUp (gUp (gUp (gUp (gUp (gUp (gUp μ p 0 (μ q 0)) p 1 (μ q 1)) p 2 (μ q 2)) p 3 (μ q 3)) p 4 (μ q 4)) p 5 (μ q 5)) p 6 (μ q 6)) p 7 (μ q 7)) p 8 (μ q 8) a = μ a := fun a ha => by
    rw [zUp_ne _ ha, zUp_ne _ ha, zUp_ne _ ha, zUp_ne _ ha, zUp_ne _ ha, zUp_ne _ ha, zUp_ne _ ha, zUp_ne _ ha, zUp_ne _ ha]
  refine ⟨_, rfl, ⟨fun a ha => o a (by omega), fun j i hj hi => ?_⟩, o⟩
  obtain rfl : j = 0 := by omega
  have i9 : i < 9 := by unfold INR at hi; omega
  rw [Nat.add_zero, Nat.add_zero, zUp_at, if_pos rfl, zUp_at, if_pos rfl, zUp_at, if_pos rfl, zUp_at, if_pos rfl, zUp_at, if_pos rfl, zUp_at, if_pos rfl, zUp_at, if_pos rfl, zUp_at, if_pos rfl, zUp_at, if_pos rfl]
  have : i = 0 ∨ i = 1 ∨ i = 2 ∨ i = 3 ∨ i = 4 ∨ i = 5 ∨ i = 6 ∨ i = 7 ∨ i = 8 := by omega
  rcases this with rfl | rfl | rfl | rfl | rfl | rfl | rfl | rfl | rfl <;> rfl
theorem cCopy {p q : Nat} {μ : gM} (dj : p + 13 < q ∨ q + 13 < p) : ∃ μ', fX9_copyFrom p q μ = some μ' ∧ (∀ a, a < p ∨ p + 13 < a → μ' a = μ a) ∧ ∀ j i, INR j i → μ' (p + j) i = μ (q + j) i := by
  obtain ⟨ν1, e1, c1, o1⟩ := cNumbers (μ := μ) dj
  have z0 : (0 : Int32).toNatClampNeg = 0 := rfl
  have z100 : (100 : Int32).toNatClampNeg = 100 := rfl
  have z240 : (240 : Int32).toNatClampNeg = 240 := rfl
  have z5 : (5 : Int32).toNatClampNeg = 5 := rfl
  have z30 : (30 : Int32).toNatClampNeg = 30 := rfl
  unfold fX9_copyFrom fX5_copyFrom fX0_copyFrom
  rw [e1, zBd_some, zLt_eq, zLt_eq, zBd_some, z0, z100, z240, z5, z30]
  generalize e2 : gUp ν1 (p + 1) 0 (ν1 (q + 1) 0) = ν2
  have c2 : CPD p q 2 μ ν2 := by
    refine ⟨fun a ha => by rw [← e2, zUp_ne _ (by omega)]; exact c1.1 a ha, fun j i hj hi => ?_⟩
    by_cases ej : j = 1
    · subst ej
      obtain rfl : i = 0 := by unfold INR at hi; omega
      rw [← e2, zUp_same, c1.1 (q + 1) (by omega)]
    · rw [← e2, zUp_ne _ (by omega)]
      exact c1.2 j i (by omega) hi
  have c3 : CPD p q 3 μ (gCp ν2 (p + 1 + 1) (va_cpy (ν2 (q + 1 + 1)) (ν2 (p + 1 + 1)) 0 0 100)) := c2.st dj (by decide) (fun i hi => by unfold INR at hi; omega)
  generalize gCp ν2 (p + 1 + 1) (va_cpy (ν2 (q + 1 + 1)) (ν2 (p + 1 + 1)) 0 0 100) = ν3 at *
  rw [zLt_eq, zLt_eq, zLt_eq, zBd_some]
  have r3 : gUp ν3 (p + 3) 0 (ν3 (q + 3) 0) (q + 3) = ν3 (q + 3) := zUp_ne _ (by omega)
  rw [r3]
  generalize e4 : gUp (gUp ν3 (p + 3) 0 (ν3 (q + 3) 0)) (p + 3) 1 (ν3 (q + 3) 1) = ν4
  have c4 : CPD p q 4 μ ν4 := by
    refine ⟨fun a ha => by rw [← e4, zUp_ne _ (by omega), zUp_ne _ (by omega)]; exact c3.1 a ha, fun j i hj hi => ?_⟩
    by_cases ej : j = 3
    · subst ej
      have : i = 0 ∨ i = 1 := by unfold INR at hi; omega
      rcases this with rfl | rfl
      · rw [← e4, zUp_slot _ (by decide), zUp_same, c3.1 (q + 3) (by omega)]
      · rw [← e4, zUp_same, c3.1 (q + 3) (by omega)]
    · rw [← e4, zUp_ne _ (by omega), zUp_ne _ (by omega)]
      exact c3.2 j i (by omega) hi
  have c5 : CPD p q 5 μ (gCp ν4 (p + 3 + 1) (va_cpy (ν4 (q + 3 + 1)) (ν4 (p + 3 + 1)) 0 0 240)) := c4.st dj (by decide) (fun i hi => by unfold INR at hi; omega)
  generalize gCp ν4 (p + 3 + 1) (va_cpy (ν4 (q + 3 + 1)) (ν4 (p + 3 + 1)) 0 0 240) = ν5 at *
  rw [zLt_eq, zLt_eq, zLt_eq, zLt_eq, zLt_eq, zLt_eq, zLt_eq, zLt_eq, zLt_eq]
  have c6 := c5.st (n := 5) dj (by decide) (fun i hi => by unfold INR at hi; omega)
  have c7 := c6.st (n := 5) dj (by decide) (fun i hi => by unfold INR at hi; omega)
  have c8 := c7.st (n := 5) dj (by decide) (fun i hi => by unfold INR at hi; omega)
  have c9 := c8.st (n := 5) dj (by decide) (fun i hi => by unfold INR at hi; omega)
  have c10 := c9.st (n := 30) dj (by decide) (fun i hi => by unfold INR at hi; omega)
  have c11 := c10.st (n := 30) dj (by decide) (fun i hi => by unfold INR at hi; omega)
  have c12 := c11.st (n := 30) dj (by decide) (fun i hi => by unfold INR at hi; omega)
  have c13 := c12.st (n := 30) dj (by decide) (fun i hi => by unfold INR at hi; omega)
  have c14 := c13.st (n := 30) dj (by decide) (fun i hi => by unfold INR at hi; omega)
  exact ⟨_, rfl, c14.1, fun j i hi => c14.2 j i (by unfold INR at hi; omega) hi⟩
