/-! what the positions tell -/
theorem lq_30 {P : List (Nat × Nat)} (h : 30 ≤ P.length) : ∃ x0 x1 x2 x3 x4 x5 x6 x7 x8 x9 x10 x11 x12 x13 x14 x15 x16 x17 x18 x19 x20 x21 x22 x23 x24 x25 x26 x27 x28 x29 : Nat × Nat, ∃ R, P = x0 :: x1 :: x2 :: x3 :: x4 :: x5 :: x6 :: x7 :: x8 :: x9 :: x10 :: x11 :: x12 :: x13 :: x14 :: x15 :: x16 :: x17 :: x18 :: x19 :: x20 :: x21 :: x22 :: x23 :: x24 :: x25 :: x26 :: x27 :: x28 :: x29 :: R := by
  obtain ⟨x0, P0, e0⟩ : ∃ x t, P = x :: t := by
    cases hh : P with
    | nil => exact absurd h (by simp only [hh, List.length_cons, List.length_nil]; omega)
    | cons x t => exact ⟨x, t, rfl⟩
  obtain ⟨x1, P1, e1⟩ : ∃ x t, P0 = x :: t := by
    cases hh : P0 with
    | nil => exact absurd h (by simp only [hh, e0, List.length_cons, List.length_nil]; omega)
    | cons x t => exact ⟨x, t, rfl⟩
  obtain ⟨x2, P2, e2⟩ : ∃ x t, P1 = x :: t := by
    cases hh : P1 with
    | nil => exact absurd h (by simp only [hh, e0, e1, List.length_cons, List.length_nil]; omega)
    | cons x t => exact ⟨x, t, rfl⟩
  obtain ⟨x3, P3, e3⟩ : ∃ x t, P2 = x :: t := by
    cases hh : P2 with
    | nil => exact absurd h (by simp only [hh, e0, e1, e2, List.length_cons, List.length_nil]; omega)
    | cons x t => exact ⟨x, t, rfl⟩
  obtain ⟨x4, P4, e4⟩ : ∃ x t, P3 = x :: t := by
    cases hh : P3 with
    | nil => exact absurd h (by simp only [hh, e0, e1, e2, e3, List.length_cons, List.length_nil]; omega)
    | cons x t => exact ⟨x, t, rfl⟩
  obtain ⟨x5, P5, e5⟩ : ∃ x t, P4 = x :: t := by
    cases hh : P4 with
    | nil => exact absurd h (by simp only [hh, e0, e1, e2, e3, e4, List.length_cons, List.length_nil]; omega)
    | cons x t => exact ⟨x, t, rfl⟩
  obtain ⟨x6, P6, e6⟩ : ∃ x t, P5 = x :: t := by
    cases hh : P5 with
    | nil => exact absurd h (by simp only [hh, e0, e1, e2, e3, e4, e5, List.length_cons, List.length_nil]; omega)
    | cons x t => exact ⟨x, t, rfl⟩
  obtain ⟨x7, P7, e7⟩ : ∃ x t, P6 = x :: t := by
    cases hh : P6 with
    | nil => exact absurd h (by simp only [hh, e0, e1, e2, e3, e4, e5, e6, List.length_cons, List.length_nil]; omega)
    | cons x t => exact ⟨x, t, rfl⟩
  obtain ⟨x8, P8, e8⟩ : ∃ x t, P7 = x :: t := by
    cases hh : P7 with
    | nil => exact absurd h (by simp only [hh, e0, e1, e2, e3, e4, e5, e6, e7, List.length_cons, List.length_nil]; omega)
    | cons x t => exact ⟨x, t, rfl⟩
  obtain ⟨x9, P9, e9⟩ : ∃ x t, P8 = x :: t := by
    cases hh : P8 with
    | nil => exact absurd h (by simp only [hh, e0, e1, e2, e3, e4, e5, e6, e7, e8, List.length_cons, List.length_nil]; omega)
    | cons x t => exact ⟨x, t, rfl⟩
  obtain ⟨x10, P10, e10⟩ : ∃ x t, P9 = x :: t := by
    cases hh : P9 with
    | nil => exact absurd h (by simp only [hh, e0, e1, e2, e3, e4, e5, e6, e7, e8, e9, List.length_cons, List.length_nil]; omega)
    | cons x t => exact ⟨x, t, rfl⟩
  obtain ⟨x11, P11, e11⟩ : ∃ x t, P10 = x :: t := by
    cases hh : P10 with
    | nil => exact absurd h (by simp only [hh, e0, e1, e2, e3, e4, e5, e6, e7, e8, e9, e10, List.length_cons, List.length_nil]; omega)
    | cons x t => exact ⟨x, t, rfl⟩
  obtain ⟨x12, P12, e12⟩ : ∃ x t, P11 = x :: t := by
    cases hh : P11 with
    | nil => exact absurd h (by simp only [hh, e0, e1, e2, e3, e4, e5, e6, e7, e8, e9, e10, e11, List.length_cons, List.length_nil]; omega)
    | cons x t => exact ⟨x, t, rfl⟩
  obtain ⟨x13, P13, e13⟩ : ∃ x t, P12 = x :: t := by
    cases hh : P12 with
    | nil => exact absurd h (by simp only [hh, e0, e1, e2, e3, e4, e5, e6, e7, e8, e9, e10, e11, e12, List.length_cons, List.length_nil]; omega)
    | cons x t => exact ⟨x, t, rfl⟩
  obtain ⟨x14, P14, e14⟩ : ∃ x t, P13 = x :: t := by
    cases hh : P13 with
    | nil => exact absurd h (by simp only [hh, e0, e1, e2, e3, e4, e5, e6, e7, e8, e9, e10, e11, e12, e13, List.length_cons, List.length_nil]; omega)
    | cons x t => exact ⟨x, t, rfl⟩
  obtain ⟨x15, P15, e15⟩ : ∃ x t, P14 = x :: t := by
    cases hh : P14 with
    | nil => exact absurd h (by simp only [hh, e0, e1, e2, e3, e4, e5, e6, e7, e8, e9, e10, e11, e12, e13, e14, List.length_cons, List.length_nil]; omega)
    | cons x t => exact ⟨x, t, rfl⟩
  obtain ⟨x16, P16, e16⟩ : ∃ x t, P15 = x :: t := by
    cases hh : P15 with
    | nil => exact absurd h (by simp only [hh, e0, e1, e2, e3, e4, e5, e6, e7, e8, e9, e10, e11, e12, e13, e14, e15, List.length_cons, List.length_nil]; omega)
    | cons x t => exact ⟨x, t, rfl⟩
  obtain ⟨x17, P17, e17⟩ : ∃ x t, P16 = x :: t := by
    cases hh : P16 with
    | nil => exact absurd h (by simp only [hh, e0, e1, e2, e3, e4, e5, e6, e7, e8, e9, e10, e11, e12, e13, e14, e15, e16, List.length_cons, List.length_nil]; omega)
    | cons x t => exact ⟨x, t, rfl⟩
  obtain ⟨x18, P18, e18⟩ : ∃ x t, P17 = x :: t := by
    cases hh : P17 with
    | nil => exact absurd h (by simp only [hh, e0, e1, e2, e3, e4, e5, e6, e7, e8, e9, e10, e11, e12, e13, e14, e15, e16, e17, List.length_cons, List.length_nil]; omega)
    | cons x t => exact ⟨x, t, rfl⟩
  obtain ⟨x19, P19, e19⟩ : ∃ x t, P18 = x :: t := by
    cases hh : P18 with
    | nil => exact absurd h (by simp only [hh, e0, e1, e2, e3, e4, e5, e6, e7, e8, e9, e10, e11, e12, e13, e14, e15, e16, e17, e18, List.length_cons, List.length_nil]; omega)
    | cons x t => exact ⟨x, t, rfl⟩
  obtain ⟨x20, P20, e20⟩ : ∃ x t, P19 = x :: t := by
    cases hh : P19 with
    | nil => exact absurd h (by simp only [hh, e0, e1, e2, e3, e4, e5, e6, e7, e8, e9, e10, e11, e12, e13, e14, e15, e16, e17, e18, e19, List.length_cons, List.length_nil]; omega)
    | cons x t => exact ⟨x, t, rfl⟩
  obtain ⟨x21, P21, e21⟩ : ∃ x t, P20 = x :: t := by
    cases hh : P20 with
    | nil => exact absurd h (by simp only [hh, e0, e1, e2, e3, e4, e5, e6, e7, e8, e9, e10, e11, e12, e13, e14, e15, e16, e17, e18, e19, e20, List.length_cons, List.length_nil]; omega)
    | cons x t => exact ⟨x, t, rfl⟩
  obtain ⟨x22, P22, e22⟩ : ∃ x t, P21 = x :: t := by
    cases hh : P21 with
    | nil => exact absurd h (by simp only [hh, e0, e1, e2, e3, e4, e5, e6, e7, e8, e9, e10, e11, e12, e13, e14, e15, e16, e17, e18, e19, e20, e21, List.length_cons, List.length_nil]; omega)
    | cons x t => exact ⟨x, t, rfl⟩
  obtain ⟨x23, P23, e23⟩ : ∃ x t, P22 = x :: t := by
    cases hh : P22 with
    | nil => exact absurd h (by simp only [hh, e0, e1, e2, e3, e4, e5, e6, e7, e8, e9, e10, e11, e12, e13, e14, e15, e16, e17, e18, e19, e20, e21, e22, List.length_cons, List.length_nil]; omega)
    | cons x t => exact ⟨x, t, rfl⟩
  obtain ⟨x24, P24, e24⟩ : ∃ x t, P23 = x :: t := by
    cases hh : P23 with
    | nil => exact absurd h (by simp only [hh, e0, e1, e2, e3, e4, e5, e6, e7, e8, e9, e10, e11, e12, e13, e14, e15, e16, e17, e18, e19, e20, e21, e22, e23, List.length_cons, List.length_nil]; omega)
    | cons x t => exact ⟨x, t, rfl⟩
  obtain ⟨x25, P25, e25⟩ : ∃ x t, P24 = x :: t := by
    cases hh : P24 with
    | nil => exact absurd h (by simp only [hh, e0, e1, e2, e3, e4, e5, e6, e7, e8, e9, e10, e11, e12, e13, e14, e15, e16, e17, e18, e19, e20, e21, e22, e23, e24, List.length_cons, List.length_nil]; omega)
    | cons x t => exact ⟨x, t, rfl⟩
  obtain ⟨x26, P26, e26⟩ : ∃ x t, P25 = x :: t := by
    cases hh : P25 with
    | nil => exact absurd h (by simp only [hh, e0, e1, e2, e3, e4, e5, e6, e7, e8, e9, e10, e11, e12, e13, e14, e15, e16, e17, e18, e19, e20, e21, e22, e23, e24, e25, List.length_cons, List.length_nil]; omega)
    | cons x t => exact ⟨x, t, rfl⟩
  obtain ⟨x27, P27, e27⟩ : ∃ x t, P26 = x :: t := by
    cases hh : P26 with
    | nil => exact absurd h (by simp only [hh, e0, e1, e2, e3, e4, e5, e6, e7, e8, e9, e10, e11, e12, e13, e14, e15, e16, e17, e18, e19, e20, e21, e22, e23, e24, e25, e26, List.length_cons, List.length_nil]; omega)
    | cons x t => exact ⟨x, t, rfl⟩
  obtain ⟨x28, P28, e28⟩ : ∃ x t, P27 = x :: t := by
    cases hh : P27 with
    | nil => exact absurd h (by simp only [hh, e0, e1, e2, e3, e4, e5, e6, e7, e8, e9, e10, e11, e12, e13, e14, e15, e16, e17, e18, e19, e20, e21, e22, e23, e24, e25, e26, e27, List.length_cons, List.length_nil]; omega)
    | cons x t => exact ⟨x, t, rfl⟩
  obtain ⟨x29, P29, e29⟩ : ∃ x t, P28 = x :: t := by
    cases hh : P28 with
    | nil => exact absurd h (by simp only [hh, e0, e1, e2, e3, e4, e5, e6, e7, e8, e9, e10, e11, e12, e13, e14, e15, e16, e17, e18, e19, e20, e21, e22, e23, e24, e25, e26, e27, e28, List.length_cons, List.length_nil]; omega)
    | cons x t => exact ⟨x, t, rfl⟩
  exact ⟨x0, x1, x2, x3, x4, x5, x6, x7, x8, x9, x10, x11, x12, x13, x14, x15, x16, x17, x18, x19, x20, x21, x22, x23, x24, x25, x26, x27, x28, x29, P29, by rw [e0, e1, e2, e3, e4, e5, e6, e7, e8, e9, e10, e11, e12, e13, e14, e15, e16, e17, e18, e19, e20, e21, e22, e23, e24, e25, e26, e27, e28, e29]⟩
theorem lq_f4_ok {P : List (Nat × Nat)} (h : 30 ≤ P.length) (e : Nat) : ((lq_f P).1).testBit e = lq_G4 (fun j => (P.getD j (0, 0)).1.testBit e) (fun j => (P.getD j (0, 0)).2.testBit e) := by
  obtain ⟨x0, x1, x2, x3, x4, x5, x6, x7, x8, x9, x10, x11, x12, x13, x14, x15, x16, x17, x18, x19, x20, x21, x22, x23, x24, x25, x26, x27, x28, x29, R, rfl⟩ := lq_30 h
  exact lq_H4 (fun j => ((x0 :: x1 :: x2 :: x3 :: x4 :: x5 :: x6 :: x7 :: x8 :: x9 :: x10 :: x11 :: x12 :: x13 :: x14 :: x15 :: x16 :: x17 :: x18 :: x19 :: x20 :: x21 :: x22 :: x23 :: x24 :: x25 :: x26 :: x27 :: x28 :: x29 :: R).getD j (0, 0)).1) (fun j => ((x0 :: x1 :: x2 :: x3 :: x4 :: x5 :: x6 :: x7 :: x8 :: x9 :: x10 :: x11 :: x12 :: x13 :: x14 :: x15 :: x16 :: x17 :: x18 :: x19 :: x20 :: x21 :: x22 :: x23 :: x24 :: x25 :: x26 :: x27 :: x28 :: x29 :: R).getD j (0, 0)).2) e
theorem lq_f5_ok {P : List (Nat × Nat)} (h : 30 ≤ P.length) (e : Nat) : ((lq_f P).2.1).testBit e = lq_G5 (fun j => (P.getD j (0, 0)).1.testBit e) (fun j => (P.getD j (0, 0)).2.testBit e) := by
  obtain ⟨x0, x1, x2, x3, x4, x5, x6, x7, x8, x9, x10, x11, x12, x13, x14, x15, x16, x17, x18, x19, x20, x21, x22, x23, x24, x25, x26, x27, x28, x29, R, rfl⟩ := lq_30 h
  exact lq_H5 (fun j => ((x0 :: x1 :: x2 :: x3 :: x4 :: x5 :: x6 :: x7 :: x8 :: x9 :: x10 :: x11 :: x12 :: x13 :: x14 :: x15 :: x16 :: x17 :: x18 :: x19 :: x20 :: x21 :: x22 :: x23 :: x24 :: x25 :: x26 :: x27 :: x28 :: x29 :: R).getD j (0, 0)).1) (fun j => ((x0 :: x1 :: x2 :: x3 :: x4 :: x5 :: x6 :: x7 :: x8 :: x9 :: x10 :: x11 :: x12 :: x13 :: x14 :: x15 :: x16 :: x17 :: x18 :: x19 :: x20 :: x21 :: x22 :: x23 :: x24 :: x25 :: x26 :: x27 :: x28 :: x29 :: R).getD j (0, 0)).2) e
theorem lq_f6_ok {P : List (Nat × Nat)} (h : 30 ≤ P.length) (e : Nat) : ((lq_f P).2.2).testBit e = lq_G6 (fun j => (P.getD j (0, 0)).1.testBit e) (fun j => (P.getD j (0, 0)).2.testBit e) := by
  obtain ⟨x0, x1, x2, x3, x4, x5, x6, x7, x8, x9, x10, x11, x12, x13, x14, x15, x16, x17, x18, x19, x20, x21, x22, x23, x24, x25, x26, x27, x28, x29, R, rfl⟩ := lq_30 h
  exact lq_H6 (fun j => ((x0 :: x1 :: x2 :: x3 :: x4 :: x5 :: x6 :: x7 :: x8 :: x9 :: x10 :: x11 :: x12 :: x13 :: x14 :: x15 :: x16 :: x17 :: x18 :: x19 :: x20 :: x21 :: x22 :: x23 :: x24 :: x25 :: x26 :: x27 :: x28 :: x29 :: R).getD j (0, 0)).1) (fun j => ((x0 :: x1 :: x2 :: x3 :: x4 :: x5 :: x6 :: x7 :: x8 :: x9 :: x10 :: x11 :: x12 :: x13 :: x14 :: x15 :: x16 :: x17 :: x18 :: x19 :: x20 :: x21 :: x22 :: x23 :: x24 :: x25 :: x26 :: x27 :: x28 :: x29 :: R).getD j (0, 0)).2) e
theorem lq_A30 {A : List Nat} (h : A.length = 30) : ∃ a0 a1 a2 a3 a4 a5 a6 a7 a8 a9 a10 a11 a12 a13 a14 a15 a16 a17 a18 a19 a20 a21 a22 a23 a24 a25 a26 a27 a28 a29 : Nat, A = [a0, a1, a2, a3, a4, a5, a6, a7, a8, a9, a10, a11, a12, a13, a14, a15, a16, a17, a18, a19, a20, a21, a22, a23, a24, a25, a26, a27, a28, a29] := by
  obtain ⟨a0, A0, e0⟩ : ∃ x t, A = x :: t := by
    cases hh : A with
    | nil => exact absurd h (by simp only [hh, List.length_cons, List.length_nil]; omega)
    | cons x t => exact ⟨x, t, rfl⟩
  obtain ⟨a1, A1, e1⟩ : ∃ x t, A0 = x :: t := by
    cases hh : A0 with
    | nil => exact absurd h (by simp only [hh, e0, List.length_cons, List.length_nil]; omega)
    | cons x t => exact ⟨x, t, rfl⟩
  obtain ⟨a2, A2, e2⟩ : ∃ x t, A1 = x :: t := by
    cases hh : A1 with
    | nil => exact absurd h (by simp only [hh, e0, e1, List.length_cons, List.length_nil]; omega)
    | cons x t => exact ⟨x, t, rfl⟩
  obtain ⟨a3, A3, e3⟩ : ∃ x t, A2 = x :: t := by
    cases hh : A2 with
    | nil => exact absurd h (by simp only [hh, e0, e1, e2, List.length_cons, List.length_nil]; omega)
    | cons x t => exact ⟨x, t, rfl⟩
  obtain ⟨a4, A4, e4⟩ : ∃ x t, A3 = x :: t := by
    cases hh : A3 with
    | nil => exact absurd h (by simp only [hh, e0, e1, e2, e3, List.length_cons, List.length_nil]; omega)
    | cons x t => exact ⟨x, t, rfl⟩
  obtain ⟨a5, A5, e5⟩ : ∃ x t, A4 = x :: t := by
    cases hh : A4 with
    | nil => exact absurd h (by simp only [hh, e0, e1, e2, e3, e4, List.length_cons, List.length_nil]; omega)
    | cons x t => exact ⟨x, t, rfl⟩
  obtain ⟨a6, A6, e6⟩ : ∃ x t, A5 = x :: t := by
    cases hh : A5 with
    | nil => exact absurd h (by simp only [hh, e0, e1, e2, e3, e4, e5, List.length_cons, List.length_nil]; omega)
    | cons x t => exact ⟨x, t, rfl⟩
  obtain ⟨a7, A7, e7⟩ : ∃ x t, A6 = x :: t := by
    cases hh : A6 with
    | nil => exact absurd h (by simp only [hh, e0, e1, e2, e3, e4, e5, e6, List.length_cons, List.length_nil]; omega)
    | cons x t => exact ⟨x, t, rfl⟩
  obtain ⟨a8, A8, e8⟩ : ∃ x t, A7 = x :: t := by
    cases hh : A7 with
    | nil => exact absurd h (by simp only [hh, e0, e1, e2, e3, e4, e5, e6, e7, List.length_cons, List.length_nil]; omega)
    | cons x t => exact ⟨x, t, rfl⟩
  obtain ⟨a9, A9, e9⟩ : ∃ x t, A8 = x :: t := by
    cases hh : A8 with
    | nil => exact absurd h (by simp only [hh, e0, e1, e2, e3, e4, e5, e6, e7, e8, List.length_cons, List.length_nil]; omega)
    | cons x t => exact ⟨x, t, rfl⟩
  obtain ⟨a10, A10, e10⟩ : ∃ x t, A9 = x :: t := by
    cases hh : A9 with
    | nil => exact absurd h (by simp only [hh, e0, e1, e2, e3, e4, e5, e6, e7, e8, e9, List.length_cons, List.length_nil]; omega)
    | cons x t => exact ⟨x, t, rfl⟩
  obtain ⟨a11, A11, e11⟩ : ∃ x t, A10 = x :: t := by
    cases hh : A10 with
    | nil => exact absurd h (by simp only [hh, e0, e1, e2, e3, e4, e5, e6, e7, e8, e9, e10, List.length_cons, List.length_nil]; omega)
    | cons x t => exact ⟨x, t, rfl⟩
  obtain ⟨a12, A12, e12⟩ : ∃ x t, A11 = x :: t := by
    cases hh : A11 with
    | nil => exact absurd h (by simp only [hh, e0, e1, e2, e3, e4, e5, e6, e7, e8, e9, e10, e11, List.length_cons, List.length_nil]; omega)
    | cons x t => exact ⟨x, t, rfl⟩
  obtain ⟨a13, A13, e13⟩ : ∃ x t, A12 = x :: t := by
    cases hh : A12 with
    | nil => exact absurd h (by simp only [hh, e0, e1, e2, e3, e4, e5, e6, e7, e8, e9, e10, e11, e12, List.length_cons, List.length_nil]; omega)
    | cons x t => exact ⟨x, t, rfl⟩
  obtain ⟨a14, A14, e14⟩ : ∃ x t, A13 = x :: t := by
    cases hh : A13 with
    | nil => exact absurd h (by simp only [hh, e0, e1, e2, e3, e4, e5, e6, e7, e8, e9, e10, e11, e12, e13, List.length_cons, List.length_nil]; omega)
    | cons x t => exact ⟨x, t, rfl⟩
  obtain ⟨a15, A15, e15⟩ : ∃ x t, A14 = x :: t := by
    cases hh : A14 with
    | nil => exact absurd h (by simp only [hh, e0, e1, e2, e3, e4, e5, e6, e7, e8, e9, e10, e11, e12, e13, e14, List.length_cons, List.length_nil]; omega)
    | cons x t => exact ⟨x, t, rfl⟩
  obtain ⟨a16, A16, e16⟩ : ∃ x t, A15 = x :: t := by
    cases hh : A15 with
    | nil => exact absurd h (by simp only [hh, e0, e1, e2, e3, e4, e5, e6, e7, e8, e9, e10, e11, e12, e13, e14, e15, List.length_cons, List.length_nil]; omega)
    | cons x t => exact ⟨x, t, rfl⟩
  obtain ⟨a17, A17, e17⟩ : ∃ x t, A16 = x :: t := by
    cases hh : A16 with
    | nil => exact absurd h (by simp only [hh, e0, e1, e2, e3, e4, e5, e6, e7, e8, e9, e10, e11, e12, e13, e14, e15, e16, List.length_cons, List.length_nil]; omega)
    | cons x t => exact ⟨x, t, rfl⟩
  obtain ⟨a18, A18, e18⟩ : ∃ x t, A17 = x :: t := by
    cases hh : A17 with
    | nil => exact absurd h (by simp only [hh, e0, e1, e2, e3, e4, e5, e6, e7, e8, e9, e10, e11, e12, e13, e14, e15, e16, e17, List.length_cons, List.length_nil]; omega)
    | cons x t => exact ⟨x, t, rfl⟩
  obtain ⟨a19, A19, e19⟩ : ∃ x t, A18 = x :: t := by
    cases hh : A18 with
    | nil => exact absurd h (by simp only [hh, e0, e1, e2, e3, e4, e5, e6, e7, e8, e9, e10, e11, e12, e13, e14, e15, e16, e17, e18, List.length_cons, List.length_nil]; omega)
    | cons x t => exact ⟨x, t, rfl⟩
  obtain ⟨a20, A20, e20⟩ : ∃ x t, A19 = x :: t := by
    cases hh : A19 with
    | nil => exact absurd h (by simp only [hh, e0, e1, e2, e3, e4, e5, e6, e7, e8, e9, e10, e11, e12, e13, e14, e15, e16, e17, e18, e19, List.length_cons, List.length_nil]; omega)
    | cons x t => exact ⟨x, t, rfl⟩
  obtain ⟨a21, A21, e21⟩ : ∃ x t, A20 = x :: t := by
    cases hh : A20 with
    | nil => exact absurd h (by simp only [hh, e0, e1, e2, e3, e4, e5, e6, e7, e8, e9, e10, e11, e12, e13, e14, e15, e16, e17, e18, e19, e20, List.length_cons, List.length_nil]; omega)
    | cons x t => exact ⟨x, t, rfl⟩
  obtain ⟨a22, A22, e22⟩ : ∃ x t, A21 = x :: t := by
    cases hh : A21 with
    | nil => exact absurd h (by simp only [hh, e0, e1, e2, e3, e4, e5, e6, e7, e8, e9, e10, e11, e12, e13, e14, e15, e16, e17, e18, e19, e20, e21, List.length_cons, List.length_nil]; omega)
    | cons x t => exact ⟨x, t, rfl⟩
  obtain ⟨a23, A23, e23⟩ : ∃ x t, A22 = x :: t := by
    cases hh : A22 with
    | nil => exact absurd h (by simp only [hh, e0, e1, e2, e3, e4, e5, e6, e7, e8, e9, e10, e11, e12, e13, e14, e15, e16, e17, e18, e19, e20, e21, e22, List.length_cons, List.length_nil]; omega)
    | cons x t => exact ⟨x, t, rfl⟩
  obtain ⟨a24, A24, e24⟩ : ∃ x t, A23 = x :: t := by
    cases hh : A23 with
    | nil => exact absurd h (by simp only [hh, e0, e1, e2, e3, e4, e5, e6, e7, e8, e9, e10, e11, e12, e13, e14, e15, e16, e17, e18, e19, e20, e21, e22, e23, List.length_cons, List.length_nil]; omega)
    | cons x t => exact ⟨x, t, rfl⟩
  obtain ⟨a25, A25, e25⟩ : ∃ x t, A24 = x :: t := by
    cases hh : A24 with
    | nil => exact absurd h (by simp only [hh, e0, e1, e2, e3, e4, e5, e6, e7, e8, e9, e10, e11, e12, e13, e14, e15, e16, e17, e18, e19, e20, e21, e22, e23, e24, List.length_cons, List.length_nil]; omega)
    | cons x t => exact ⟨x, t, rfl⟩
  obtain ⟨a26, A26, e26⟩ : ∃ x t, A25 = x :: t := by
    cases hh : A25 with
    | nil => exact absurd h (by simp only [hh, e0, e1, e2, e3, e4, e5, e6, e7, e8, e9, e10, e11, e12, e13, e14, e15, e16, e17, e18, e19, e20, e21, e22, e23, e24, e25, List.length_cons, List.length_nil]; omega)
    | cons x t => exact ⟨x, t, rfl⟩
  obtain ⟨a27, A27, e27⟩ : ∃ x t, A26 = x :: t := by
    cases hh : A26 with
    | nil => exact absurd h (by simp only [hh, e0, e1, e2, e3, e4, e5, e6, e7, e8, e9, e10, e11, e12, e13, e14, e15, e16, e17, e18, e19, e20, e21, e22, e23, e24, e25, e26, List.length_cons, List.length_nil]; omega)
    | cons x t => exact ⟨x, t, rfl⟩
  obtain ⟨a28, A28, e28⟩ : ∃ x t, A27 = x :: t := by
    cases hh : A27 with
    | nil => exact absurd h (by simp only [hh, e0, e1, e2, e3, e4, e5, e6, e7, e8, e9, e10, e11, e12, e13, e14, e15, e16, e17, e18, e19, e20, e21, e22, e23, e24, e25, e26, e27, List.length_cons, List.length_nil]; omega)
    | cons x t => exact ⟨x, t, rfl⟩
  obtain ⟨a29, A29, e29⟩ : ∃ x t, A28 = x :: t := by
    cases hh : A28 with
    | nil => exact absurd h (by simp only [hh, e0, e1, e2, e3, e4, e5, e6, e7, e8, e9, e10, e11, e12, e13, e14, e15, e16, e17, e18, e19, e20, e21, e22, e23, e24, e25, e26, e27, e28, List.length_cons, List.length_nil]; omega)
    | cons x t => exact ⟨x, t, rfl⟩
  have z : A29 = [] := by
    cases hh : A29 with
    | nil => rfl
    | cons x t => exact absurd h (by simp only [hh, e29, e28, e27, e26, e25, e24, e23, e22, e21, e20, e19, e18, e17, e16, e15, e14, e13, e12, e11, e10, e9, e8, e7, e6, e5, e4, e3, e2, e1, e0, List.length_cons]; omega)
  exact ⟨a0, a1, a2, a3, a4, a5, a6, a7, a8, a9, a10, a11, a12, a13, a14, a15, a16, a17, a18, a19, a20, a21, a22, a23, a24, a25, a26, a27, a28, a29, by rw [e0, e1, e2, e3, e4, e5, e6, e7, e8, e9, e10, e11, e12, e13, e14, e15, e16, e17, e18, e19, e20, e21, e22, e23, e24, e25, e26, e27, e28, e29, z]⟩
theorem lq_nx_ok {A : List Nat} (h : A.length = 30) (q : Nat × Nat × Nat) (e : Nat) : (lq_nx A q).length = 30 ∧ (∀ j, j < 29 → (A.getD (j + 1) 0).testBit e = true → ((lq_nx A q).getD j 0).testBit e = true) ∧ ((A.getD 0 0).testBit e = true → (q.1.testBit e = true → ((lq_nx A q).getD 19 0).testBit e = true) ∧ (q.2.1.testBit e = true → ((lq_nx A q).getD 24 0).testBit e = true) ∧ (q.2.2.testBit e = true → ((lq_nx A q).getD 29 0).testBit e = true)) := by
  obtain ⟨a0, a1, a2, a3, a4, a5, a6, a7, a8, a9, a10, a11, a12, a13, a14, a15, a16, a17, a18, a19, a20, a21, a22, a23, a24, a25, a26, a27, a28, a29, rfl⟩ := lq_A30 h
  refine ⟨rfl, fun j hj hb => ?_, fun h0 => ⟨fun hq => ?_, fun hq => ?_, fun hq => ?_⟩⟩
  · have c : j = 0 ∨ j = 1 ∨ j = 2 ∨ j = 3 ∨ j = 4 ∨ j = 5 ∨ j = 6 ∨ j = 7 ∨ j = 8 ∨ j = 9 ∨ j = 10 ∨ j = 11 ∨ j = 12 ∨ j = 13 ∨ j = 14 ∨ j = 15 ∨ j = 16 ∨ j = 17 ∨ j = 18 ∨ j = 19 ∨ j = 20 ∨ j = 21 ∨ j = 22 ∨ j = 23 ∨ j = 24 ∨ j = 25 ∨ j = 26 ∨ j = 27 ∨ j = 28 := by omega
    rcases c with c | c | c | c | c | c | c | c | c | c | c | c | c | c | c | c | c | c | c | c | c | c | c | c | c | c | c | c | c <;> subst c
    · exact hb
    · exact hb
    · exact hb
    · exact hb
    · exact hb
    · exact hb
    · exact hb
    · exact hb
    · exact hb
    · exact hb
    · exact hb
    · exact hb
    · exact hb
    · exact hb
    · exact hb
    · exact hb
    · exact hb
    · exact hb
    · exact hb
    · show (Nat.lor a20 _).testBit e = true
      rw [lq_to, show a20.testBit e = true from hb, Bool.true_or]
    · exact hb
    · exact hb
    · exact hb
    · exact hb
    · show (Nat.lor a25 _).testBit e = true
      rw [lq_to, show a25.testBit e = true from hb, Bool.true_or]
    · exact hb
    · exact hb
    · exact hb
    · exact hb
  · show (Nat.lor a20 (Nat.land a0 q.1)).testBit e = true
    rw [lq_to, lq_tl, show a0.testBit e = true from h0, hq, Bool.true_and, Bool.or_true]
  · show (Nat.lor a25 (Nat.land a0 q.2.1)).testBit e = true
    rw [lq_to, lq_tl, show a0.testBit e = true from h0, hq, Bool.true_and, Bool.or_true]
  · show (Nat.land a0 q.2.2).testBit e = true
    rw [lq_tl, show a0.testBit e = true from h0, hq, Bool.true_and]
/-- a perfect turn by its draws, a chain of them -/
def lq_T (c s x : Nat) : Prop := (s = 4 ∧ lq_G4 (fun j => decide (c ≤ lq_d (lq_i (j + 1) x))) (fun j => decide (lq_d (lq_i (j + 1) x) < c)) = true) ∨ (s = 5 ∧ lq_G5 (fun j => decide (c ≤ lq_d (lq_i (j + 1) x))) (fun j => decide (lq_d (lq_i (j + 1) x) < c)) = true) ∨ (s = 6 ∧ lq_G6 (fun j => decide (c ≤ lq_d (lq_i (j + 1) x))) (fun j => decide (lq_d (lq_i (j + 1) x) < c)) = true)
def lq_ch (c : Nat) : Nat → Nat → Prop
  | 0, _ => True
  | m + 1, x => ∃ s, lq_T c s x ∧ lq_ch c m (lq_i (5 * s) x)
theorem lq_go_ok {c e x a b : Nat} (ha : a ≤ c) (hc : c ≤ b) : ∀ (k p : Nat) (P : List (Nat × Nat)) (A : List Nat) (j m : Nat), A.length = 30 → j < 30 → (A.getD j 0).testBit e = true → k + 29 ≤ P.length → (∀ i, i < P.length → (P.getD i (0, 0)).1.testBit e = decide (a ≤ lq_d (lq_i (p + i + 1) x)) ∧ (P.getD i (0, 0)).2.testBit e = decide (lq_d (lq_i (p + i + 1) x) < b)) → lq_ch c m (lq_i (p + j) x) → k ≤ j + 20 * m → ∃ i, i < 30 ∧ ((lq_go k P A).getD i 0).testBit e = true := by
  intro k
  induction k with
  | zero => intro p P A j m _ hj hb _ _ _ _; exact ⟨j, hj, hb⟩
  | succ k ih =>
    intro p P A j m hA hj hb hP hp hch hk
    obtain ⟨n0, n1, n2⟩ := lq_nx_ok hA (lq_f P) e
    have hP' : k + 29 ≤ P.tail.length := by rw [List.length_tail]; omega
    have hp' : ∀ i, i < P.tail.length → (P.tail.getD i (0, 0)).1.testBit e = decide (a ≤ lq_d (lq_i (p + 1 + i + 1) x)) ∧ (P.tail.getD i (0, 0)).2.testBit e = decide (lq_d (lq_i (p + 1 + i + 1) x) < b) := fun i hi => by
      rw [List.length_tail] at hi
      have := hp (i + 1) (by omega)
      have g : P.tail.getD i (0, 0) = P.getD (i + 1) (0, 0) := by
        cases P with
        | nil => rfl
        | cons y t => rfl
      rw [g, show p + 1 + i + 1 = p + (i + 1) + 1 from by omega]
      exact this
    show ∃ i, i < 30 ∧ ((lq_go k P.tail (lq_nx A (lq_f P))).getD i 0).testBit e = true
    cases j with
    | succ j =>
      exact ih (p + 1) P.tail _ j m n0 (by omega) (n1 j (by omega) hb) hP' hp' (by rw [show p + 1 + j = p + (j + 1) from by omega]; exact hch) (by omega)
    | zero =>
      cases m with
      | zero => exact absurd hk (by omega)
      | succ m =>
        obtain ⟨s, hs, hr⟩ := hch
        rw [← lq_i_add] at hr
        have mN : ∀ j, j < P.length → (decide (c ≤ lq_d (lq_i (j + 1) (lq_i (p + 0) x))) = true → (P.getD j (0, 0)).1.testBit e = true) := fun j hj w => by
          rw [(hp j hj).1]
          have := of_decide_eq_true w
          rw [← lq_i_add, show p + 0 + (j + 1) = p + j + 1 from by omega] at this
          exact decide_eq_true (by omega)
        have mL : ∀ j, j < P.length → (decide (lq_d (lq_i (j + 1) (lq_i (p + 0) x)) < c) = true → (P.getD j (0, 0)).2.testBit e = true) := fun j hj w => by
          rw [(hp j hj).2]
          have := of_decide_eq_true w
          rw [← lq_i_add, show p + 0 + (j + 1) = p + j + 1 from by omega] at this
          exact decide_eq_true (by omega)
        have h30 : 30 ≤ P.length := by omega
        obtain ⟨m4, m5, m6⟩ := n2 hb
        rcases hs with ⟨rfl, g⟩ | ⟨rfl, g⟩ | ⟨rfl, g⟩
        · exact ih (p + 1) P.tail _ 19 m n0 (by decide) (m4 (by rw [lq_f4_ok h30]; exact lq_M4 (fun j hj => mN j (by omega)) (fun j hj => mL j (by omega)) g)) hP' hp' (by rw [show p + 1 + 19 = p + 0 + 5 * 4 from by omega]; exact hr) (by omega)
        · exact ih (p + 1) P.tail _ 24 m n0 (by decide) (m5 (by rw [lq_f5_ok h30]; exact lq_M5 (fun j hj => mN j (by omega)) (fun j hj => mL j (by omega)) g)) hP' hp' (by rw [show p + 1 + 24 = p + 0 + 5 * 5 from by omega]; exact hr) (by omega)
        · exact ih (p + 1) P.tail _ 29 m n0 (by decide) (m6 (by rw [lq_f6_ok h30]; exact lq_M6 (fun j hj => mN j (by omega)) (fun j hj => mL j (by omega)) g)) hP' hp' (by rw [show p + 1 + 29 = p + 0 + 5 * 6 from by omega]; exact hr) (by omega)
