/-! chunks 0 to 31 -/
def lq_zP (q : Nat) : Prop := lq_c1 2048 (4194304 * q) (lq_Mx (q / 32)) = true
theorem lq_z1 {a : Nat} (h : lq_zP a) : ∀ q, a ≤ q → q < a + 1 → lq_zP q := fun q h1 h2 => by
  obtain rfl : q = a := by omega
  exact h
theorem lq_z2 {a b c : Nat} (h1 : ∀ q, a ≤ q → q < b → lq_zP q) (h2 : ∀ q, b ≤ q → q < c → lq_zP q) : ∀ q, a ≤ q → q < c → lq_zP q := fun q x y => by
  by_cases w : q < b
  · exact h1 q x w
  · exact h2 q (by omega) y
theorem lq_k0 : lq_zP 0 := (by decide +kernel : lq_c1 2048 (4194304 * 0) (lq_Mx (0 / 32)) = true)
theorem lq_k1 : lq_zP 1 := (by decide +kernel : lq_c1 2048 (4194304 * 1) (lq_Mx (1 / 32)) = true)
theorem lq_k2 : lq_zP 2 := (by decide +kernel : lq_c1 2048 (4194304 * 2) (lq_Mx (2 / 32)) = true)
theorem lq_k3 : lq_zP 3 := (by decide +kernel : lq_c1 2048 (4194304 * 3) (lq_Mx (3 / 32)) = true)
theorem lq_k4 : lq_zP 4 := (by decide +kernel : lq_c1 2048 (4194304 * 4) (lq_Mx (4 / 32)) = true)
theorem lq_k5 : lq_zP 5 := (by decide +kernel : lq_c1 2048 (4194304 * 5) (lq_Mx (5 / 32)) = true)
theorem lq_k6 : lq_zP 6 := (by decide +kernel : lq_c1 2048 (4194304 * 6) (lq_Mx (6 / 32)) = true)
theorem lq_k7 : lq_zP 7 := (by decide +kernel : lq_c1 2048 (4194304 * 7) (lq_Mx (7 / 32)) = true)
theorem lq_k8 : lq_zP 8 := (by decide +kernel : lq_c1 2048 (4194304 * 8) (lq_Mx (8 / 32)) = true)
theorem lq_k9 : lq_zP 9 := (by decide +kernel : lq_c1 2048 (4194304 * 9) (lq_Mx (9 / 32)) = true)
theorem lq_k10 : lq_zP 10 := (by decide +kernel : lq_c1 2048 (4194304 * 10) (lq_Mx (10 / 32)) = true)
theorem lq_k11 : lq_zP 11 := (by decide +kernel : lq_c1 2048 (4194304 * 11) (lq_Mx (11 / 32)) = true)
theorem lq_k12 : lq_zP 12 := (by decide +kernel : lq_c1 2048 (4194304 * 12) (lq_Mx (12 / 32)) = true)
theorem lq_k13 : lq_zP 13 := (by decide +kernel : lq_c1 2048 (4194304 * 13) (lq_Mx (13 / 32)) = true)
theorem lq_k14 : lq_zP 14 := (by decide +kernel : lq_c1 2048 (4194304 * 14) (lq_Mx (14 / 32)) = true)
theorem lq_k15 : lq_zP 15 := (by decide +kernel : lq_c1 2048 (4194304 * 15) (lq_Mx (15 / 32)) = true)
theorem lq_k16 : lq_zP 16 := (by decide +kernel : lq_c1 2048 (4194304 * 16) (lq_Mx (16 / 32)) = true)
theorem lq_k17 : lq_zP 17 := (by decide +kernel : lq_c1 2048 (4194304 * 17) (lq_Mx (17 / 32)) = true)
theorem lq_k18 : lq_zP 18 := (by decide +kernel : lq_c1 2048 (4194304 * 18) (lq_Mx (18 / 32)) = true)
theorem lq_k19 : lq_zP 19 := (by decide +kernel : lq_c1 2048 (4194304 * 19) (lq_Mx (19 / 32)) = true)
theorem lq_k20 : lq_zP 20 := (by decide +kernel : lq_c1 2048 (4194304 * 20) (lq_Mx (20 / 32)) = true)
theorem lq_k21 : lq_zP 21 := (by decide +kernel : lq_c1 2048 (4194304 * 21) (lq_Mx (21 / 32)) = true)
theorem lq_k22 : lq_zP 22 := (by decide +kernel : lq_c1 2048 (4194304 * 22) (lq_Mx (22 / 32)) = true)
theorem lq_k23 : lq_zP 23 := (by decide +kernel : lq_c1 2048 (4194304 * 23) (lq_Mx (23 / 32)) = true)
theorem lq_k24 : lq_zP 24 := (by decide +kernel : lq_c1 2048 (4194304 * 24) (lq_Mx (24 / 32)) = true)
theorem lq_k25 : lq_zP 25 := (by decide +kernel : lq_c1 2048 (4194304 * 25) (lq_Mx (25 / 32)) = true)
theorem lq_k26 : lq_zP 26 := (by decide +kernel : lq_c1 2048 (4194304 * 26) (lq_Mx (26 / 32)) = true)
theorem lq_k27 : lq_zP 27 := (by decide +kernel : lq_c1 2048 (4194304 * 27) (lq_Mx (27 / 32)) = true)
theorem lq_k28 : lq_zP 28 := (by decide +kernel : lq_c1 2048 (4194304 * 28) (lq_Mx (28 / 32)) = true)
theorem lq_k29 : lq_zP 29 := (by decide +kernel : lq_c1 2048 (4194304 * 29) (lq_Mx (29 / 32)) = true)
theorem lq_k30 : lq_zP 30 := (by decide +kernel : lq_c1 2048 (4194304 * 30) (lq_Mx (30 / 32)) = true)
theorem lq_k31 : lq_zP 31 := (by decide +kernel : lq_c1 2048 (4194304 * 31) (lq_Mx (31 / 32)) = true)
theorem lq_zk0 : ∀ q, 0 ≤ q → q < 32 → lq_zP q := (lq_z2 (lq_z2 (lq_z2 (lq_z2 (lq_z2 (lq_z1 lq_k0) (lq_z1 lq_k1)) (lq_z2 (lq_z1 lq_k2) (lq_z1 lq_k3))) (lq_z2 (lq_z2 (lq_z1 lq_k4) (lq_z1 lq_k5)) (lq_z2 (lq_z1 lq_k6) (lq_z1 lq_k7)))) (lq_z2 (lq_z2 (lq_z2 (lq_z1 lq_k8) (lq_z1 lq_k9)) (lq_z2 (lq_z1 lq_k10) (lq_z1 lq_k11))) (lq_z2 (lq_z2 (lq_z1 lq_k12) (lq_z1 lq_k13)) (lq_z2 (lq_z1 lq_k14) (lq_z1 lq_k15))))) (lq_z2 (lq_z2 (lq_z2 (lq_z2 (lq_z1 lq_k16) (lq_z1 lq_k17)) (lq_z2 (lq_z1 lq_k18) (lq_z1 lq_k19))) (lq_z2 (lq_z2 (lq_z1 lq_k20) (lq_z1 lq_k21)) (lq_z2 (lq_z1 lq_k22) (lq_z1 lq_k23)))) (lq_z2 (lq_z2 (lq_z2 (lq_z1 lq_k24) (lq_z1 lq_k25)) (lq_z2 (lq_z1 lq_k26) (lq_z1 lq_k27))) (lq_z2 (lq_z2 (lq_z1 lq_k28) (lq_z1 lq_k29)) (lq_z2 (lq_z1 lq_k30) (lq_z1 lq_k31))))))
