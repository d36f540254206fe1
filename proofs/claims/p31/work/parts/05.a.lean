theorem gk_all {k n : Nat} {P : Nat → Prop} (hk : k ≠ 9) (h : ∀ a, a < 278 → gk a = (k, n) → P a) {a : Nat} (ha : gk a = (k, n)) : P a := h a (gk_lt ha hk) ha
theorem gkc_0 : gk 0 = (0, 11) := by decide +kernel
theorem gkc_1 : gk 1 = (0, 7) := by decide +kernel
theorem gkc_2 : gk 2 = (1, 1500) := by decide +kernel
theorem gkc_3 : gk 3 = (1, 21) := by decide +kernel
theorem gkc_4 : gk 4 = (0, 1) := by decide +kernel
theorem gkc_5 : gk 5 = (1, 3) := by decide +kernel
theorem gkc_6 : gk 6 = (1, 24) := by decide +kernel
theorem gkc_7 : gk 7 = (1, 5) := by decide +kernel
theorem gkc_8 : gk 8 = (1, 5) := by decide +kernel
theorem gkc_9 : gk 9 = (1, 5) := by decide +kernel
theorem gkc_10 : gk 10 = (1, 5) := by decide +kernel
theorem gkc_11 : gk 11 = (1, 5) := by decide +kernel
theorem gkc_12 : gk 12 = (1, 30) := by decide +kernel
theorem gkc_13 : gk 13 = (1, 30) := by decide +kernel
theorem gkc_14 : gk 14 = (1, 24) := by decide +kernel
theorem gkc_15 : gk 15 = (1, 24) := by decide +kernel
theorem gkc_16 : gk 16 = (1, 24) := by decide +kernel
theorem gkc_17 : gk 17 = (0, 2) := by decide +kernel
theorem gkc_18 : gk 18 = (0, 1) := by decide +kernel
theorem gkc_19 : gk 19 = (1, 3) := by decide +kernel
theorem gkc_20 : gk 20 = (1, 24) := by decide +kernel
theorem gkc_21 : gk 21 = (1, 5) := by decide +kernel
theorem gkc_22 : gk 22 = (1, 5) := by decide +kernel
theorem gkc_23 : gk 23 = (1, 5) := by decide +kernel
theorem gkc_24 : gk 24 = (1, 5) := by decide +kernel
theorem gkc_25 : gk 25 = (1, 5) := by decide +kernel
theorem gkc_26 : gk 26 = (1, 30) := by decide +kernel
theorem gkc_27 : gk 27 = (1, 30) := by decide +kernel
theorem gkc_28 : gk 28 = (1, 24) := by decide +kernel
theorem gkc_29 : gk 29 = (1, 24) := by decide +kernel
theorem gkc_30 : gk 30 = (1, 24) := by decide +kernel
theorem gkc_31 : gk 31 = (0, 6) := by decide +kernel
theorem gkc_32 : gk 32 = (0, 5) := by decide +kernel
theorem gkc_34 : gk 34 = (0, 9) := by decide +kernel
theorem gkc_35 : gk 35 = (0, 5) := by decide +kernel
theorem gkc_36 : gk 36 = (1, 100) := by decide +kernel
theorem gkc_37 : gk 37 = (0, 0) := by decide +kernel
theorem gkc_39 : gk 39 = (1, 5) := by decide +kernel
theorem gkc_40 : gk 40 = (1, 5) := by decide +kernel
theorem gkc_41 : gk 41 = (1, 5) := by decide +kernel
theorem gkc_42 : gk 42 = (1, 5) := by decide +kernel
theorem gkc_43 : gk 43 = (1, 30) := by decide +kernel
theorem gkc_44 : gk 44 = (1, 30) := by decide +kernel
theorem gkc_45 : gk 45 = (1, 30) := by decide +kernel
theorem gkc_46 : gk 46 = (1, 30) := by decide +kernel
theorem gkc_47 : gk 47 = (1, 30) := by decide +kernel
theorem gkc_48 : gk 48 = (0, 10) := by decide +kernel
theorem gkc_49 : gk 49 = (0, 4) := by decide +kernel
theorem gkc_50 : gk 50 = (4, 12) := by decide +kernel
theorem gkc_51 : gk 51 = (4, 2) := by decide +kernel
theorem gkc_248 : gk 248 = (0, 3) := by decide +kernel
theorem gkc_249 : gk 249 = (0, 9) := by decide +kernel
theorem gkc_254 : gk 254 = (1, 5) := by decide +kernel
theorem gkc_257 : gk 257 = (1, 5) := by decide +kernel
theorem gkc_263 : gk 263 = (0, 10) := by decide +kernel
theorem gkc_264 : gk 264 = (0, 8) := by decide +kernel
theorem gkc_265 : gk 265 = (1, 8) := by decide +kernel
theorem gkc_266 : gk 266 = (1, 6) := by decide +kernel
theorem gkc_267 : gk 267 = (0, 12) := by decide +kernel
theorem gkc_268 : gk 268 = (2, 1500) := by decide +kernel
theorem gkc_269 : gk 269 = (1, 209) := by decide +kernel
theorem gkc_270 : gk 270 = (1, 209) := by decide +kernel
theorem gkc_271 : gk 271 = (1, 100) := by decide +kernel
theorem gkc_272 : gk 272 = (1, 490) := by decide +kernel
theorem gkc_273 : gk 273 = (1, 7350) := by decide +kernel
theorem gkc_274 : gk 274 = (3, 2) := by decide +kernel
theorem gkc_275 : gk 275 = (1, 6) := by decide +kernel
theorem gkc_276 : gk 276 = (1, 8) := by decide +kernel
theorem gkc_277 : gk 277 = (1, 6) := by decide +kernel
theorem gd_X0_2 {a : Nat} (h : gk a = (0, 0)) : gk (a + 1) = (1, 240) := gk_all (P := fun a => gk (a + 1) = (1, 240)) (by decide) (by decide +kernel) h
theorem gd_X1_7 {a : Nat} (h : gk a = (0, 1)) : gk (a + 7) = (1, 5) := gk_all (P := fun a => gk (a + 7) = (1, 5)) (by decide) (by decide +kernel) h
theorem gd_X1_1 {a : Nat} (h : gk a = (0, 1)) : gk (a + 1) = (1, 3) := gk_all (P := fun a => gk (a + 1) = (1, 3)) (by decide) (by decide +kernel) h
theorem gd_X1_2 {a : Nat} (h : gk a = (0, 1)) : gk (a + 2) = (1, 24) := gk_all (P := fun a => gk (a + 2) = (1, 24)) (by decide) (by decide +kernel) h
theorem gd_X1_3 {a : Nat} (h : gk a = (0, 1)) : gk (a + 3) = (1, 5) := gk_all (P := fun a => gk (a + 3) = (1, 5)) (by decide) (by decide +kernel) h
theorem gd_X1_4 {a : Nat} (h : gk a = (0, 1)) : gk (a + 4) = (1, 5) := gk_all (P := fun a => gk (a + 4) = (1, 5)) (by decide) (by decide +kernel) h
theorem gd_X1_5 {a : Nat} (h : gk a = (0, 1)) : gk (a + 5) = (1, 5) := gk_all (P := fun a => gk (a + 5) = (1, 5)) (by decide) (by decide +kernel) h
theorem gd_X1_6 {a : Nat} (h : gk a = (0, 1)) : gk (a + 6) = (1, 5) := gk_all (P := fun a => gk (a + 6) = (1, 5)) (by decide) (by decide +kernel) h
theorem gd_X1_8 {a : Nat} (h : gk a = (0, 1)) : gk (a + 8) = (1, 30) := gk_all (P := fun a => gk (a + 8) = (1, 30)) (by decide) (by decide +kernel) h
theorem gd_X1_9 {a : Nat} (h : gk a = (0, 1)) : gk (a + 9) = (1, 30) := gk_all (P := fun a => gk (a + 9) = (1, 30)) (by decide) (by decide +kernel) h
theorem gd_X1_11 {a : Nat} (h : gk a = (0, 1)) : gk (a + 10) = (1, 24) := gk_all (P := fun a => gk (a + 10) = (1, 24)) (by decide) (by decide +kernel) h
theorem gd_X1_12 {a : Nat} (h : gk a = (0, 1)) : gk (a + 11) = (1, 24) := gk_all (P := fun a => gk (a + 11) = (1, 24)) (by decide) (by decide +kernel) h
theorem gd_X1_13 {a : Nat} (h : gk a = (0, 1)) : gk (a + 12) = (1, 24) := gk_all (P := fun a => gk (a + 12) = (1, 24)) (by decide) (by decide +kernel) h
theorem gd_X5_1 {a : Nat} (h : gk a = (0, 5)) : gk (a + 1) = (1, 100) := gk_all (P := fun a => gk (a + 1) = (1, 100)) (by decide) (by decide +kernel) h
theorem gd_X9_9 {a : Nat} (h : gk a = (0, 9)) : gk (a + 1) = (0, 5) := gk_all (P := fun a => gk (a + 1) = (0, 5)) (by decide) (by decide +kernel) h
theorem gd_X9_10 {a : Nat} (h : gk a = (0, 9)) : gk (a + 3) = (0, 0) := gk_all (P := fun a => gk (a + 3) = (0, 0)) (by decide) (by decide +kernel) h
theorem gd_X9_11 {a : Nat} (h : gk a = (0, 9)) : gk (a + 5) = (1, 5) := gk_all (P := fun a => gk (a + 5) = (1, 5)) (by decide) (by decide +kernel) h
theorem gd_X9_12 {a : Nat} (h : gk a = (0, 9)) : gk (a + 6) = (1, 5) := gk_all (P := fun a => gk (a + 6) = (1, 5)) (by decide) (by decide +kernel) h
theorem gd_X9_13 {a : Nat} (h : gk a = (0, 9)) : gk (a + 7) = (1, 5) := gk_all (P := fun a => gk (a + 7) = (1, 5)) (by decide) (by decide +kernel) h
theorem gd_X9_14 {a : Nat} (h : gk a = (0, 9)) : gk (a + 8) = (1, 5) := gk_all (P := fun a => gk (a + 8) = (1, 5)) (by decide) (by decide +kernel) h
theorem gd_X9_15 {a : Nat} (h : gk a = (0, 9)) : gk (a + 9) = (1, 30) := gk_all (P := fun a => gk (a + 9) = (1, 30)) (by decide) (by decide +kernel) h
theorem gd_X9_16 {a : Nat} (h : gk a = (0, 9)) : gk (a + 10) = (1, 30) := gk_all (P := fun a => gk (a + 10) = (1, 30)) (by decide) (by decide +kernel) h
theorem gd_X9_17 {a : Nat} (h : gk a = (0, 9)) : gk (a + 11) = (1, 30) := gk_all (P := fun a => gk (a + 11) = (1, 30)) (by decide) (by decide +kernel) h
theorem gd_X9_18 {a : Nat} (h : gk a = (0, 9)) : gk (a + 12) = (1, 30) := gk_all (P := fun a => gk (a + 12) = (1, 30)) (by decide) (by decide +kernel) h
theorem gd_X9_19 {a : Nat} (h : gk a = (0, 9)) : gk (a + 13) = (1, 30) := gk_all (P := fun a => gk (a + 13) = (1, 30)) (by decide) (by decide +kernel) h
theorem gd_X10_1 {a : Nat} (h : gk (a + 14) = (0, 10)) : gk a = (0, 9) := by
  have hl := gk_lt h (by decide)
  have h2 : ∀ b, b < 264 → gk (b + 14) = (0, 10) → gk b = (0, 9) := by decide +kernel
  exact h2 a (by omega) h
theorem ge_50 {i : Int32} (h : gIn i 12 = true) : gk (52 + 14 * i.toNatClampNeg) = (0, 9) := by
  have h1 := gIn_vp h
  have h2 : i.toNatClampNeg < 12 := Nat.not_le.mp fun q => h1 (Or.inr q)
  have h3 : ∀ j, j < 12 → gk (52 + 14 * j) = (0, 9) := by decide +kernel
  exact h3 _ h2
theorem ge_51 {i : Int32} (h : gIn i 2 = true) : gk (220 + 14 * i.toNatClampNeg) = (0, 9) := by
  have h1 := gIn_vp h
  have h2 : i.toNatClampNeg < 2 := Nat.not_le.mp fun q => h1 (Or.inr q)
  have h3 : ∀ j, j < 2 → gk (220 + 14 * j) = (0, 9) := by decide +kernel
  exact h3 _ h2
