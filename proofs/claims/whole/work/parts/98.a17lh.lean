/-! from the checkpoints to every x -/
def lq_w (y : Nat) : Nat := (1103515245 * y + 12345) % 256
def lq_wr : Nat → Nat → Bool
  | 0, y => Nat.beq y 0
  | k + 1, y => Nat.beq y 0 || lq_wr k (lq_w y)
theorem lq_w_s (x : Nat) : lq_s x % 256 = lq_w (x % 256) := by
  unfold lq_s lq_w
  rw [Nat.mod_mod_of_dvd _ (by decide : 256 ∣ 2147483648), Nat.add_mod, Nat.mul_mod, Nat.add_mod (1103515245 * (x % 256)), Nat.mul_mod 1103515245 (x % 256), Nat.mod_mod]
theorem lq_wr_ok : ∀ (k x : Nat), lq_wr k (x % 256) = true → ∃ m, m ≤ k ∧ lq_i m x % 256 = 0 := by
  intro k
  induction k with
  | zero => intro x h; exact ⟨0, Nat.le_refl _, Nat.eq_of_beq_eq_true h⟩
  | succ k ih =>
    intro x h
    have h2 : (Nat.beq (x % 256) 0 || lq_wr k (lq_w (x % 256))) = true := h
    rw [Bool.or_eq_true] at h2
    rcases h2 with h2 | h2
    · exact ⟨0, by omega, Nat.eq_of_beq_eq_true h2⟩
    · rw [← lq_w_s] at h2
      obtain ⟨m, hm, e⟩ := ih (lq_s x) h2
      refine ⟨1 + m, by omega, ?_⟩
      rw [lq_i_add]
      exact e
theorem lq_w_all : ∀ y, y < 256 → lq_wr 255 y = true := by decide +kernel
theorem lq_near (x : Nat) : ∃ m, m ≤ 255 ∧ lq_i m x % 256 = 0 := lq_wr_ok 255 x (lq_w_all _ (Nat.mod_lt _ (by decide)))
/-- a chain of perfect turns comes past a checkpoint -/
theorem lq_walk {c m0 x : Nat} : ∀ (M p : Nat), p ≤ m0 → lq_ch c M (lq_i p x) → m0 + 20 ≤ p + 20 * M → ∃ j m, j < 30 ∧ lq_ch c m (lq_i (m0 + j) x) ∧ p + 20 * M ≤ m0 + 19 + 20 * m := by
  intro M
  induction M with
  | zero => intro p h _ k; exact absurd k (by omega)
  | succ M ih =>
    intro p h w k
    by_cases e : p = m0
    · exact ⟨0, M + 1, by decide, by rw [Nat.add_zero, ← e]; exact w, by omega⟩
    · obtain ⟨s, hs, hr⟩ := w
      rw [← lq_i_add] at hr
      have s46 : s = 4 ∨ s = 5 ∨ s = 6 := by
        rcases hs with ⟨q, -⟩ | ⟨q, -⟩ | ⟨q, -⟩ <;> omega
      by_cases g : m0 ≤ p + 5 * s
      · refine ⟨p + 5 * s - m0, M, by omega, ?_, by omega⟩
        rw [show m0 + (p + 5 * s - m0) = p + 5 * s from by omega]
        exact hr
      · obtain ⟨j, m, hj, hc, hm⟩ := ih (p + 5 * s) (by omega) hr (by omega)
        exact ⟨j, m, hj, hc, by omega⟩
def lq_Mx (g : Nat) : List Nat := [lq_M0a, lq_M1a, lq_M2a, lq_M3a, lq_M4a, lq_M5a, lq_M6a, lq_M7a, lq_M8a, lq_M9a, lq_M10a, lq_M11a, lq_M12a, lq_M13a, lq_M14a, lq_M15a].getD g []
def lq_Lx (g : Nat) : Nat → List Nat := [lq_L0, lq_L1, lq_L2, lq_L3, lq_L4, lq_L5, lq_L6, lq_L7, lq_L8, lq_L9, lq_L10, lq_L11, lq_L12, lq_L13, lq_L14, lq_L15].getD g (fun _ => [])
theorem lq_s0 : (∀ h, h < 8 → (lq_L0 h).length = 64 ∧ (lq_L0 h).all (fun x => Nat.blt x 2147483648) = true) := by decide +kernel
theorem lq_e0 : lq_c2 64 lq_L0 = true := by decide +kernel
theorem lq_m0 {x : Nat} (h : x ∈ lq_M0a) : ∃ k, k < 8 ∧ x ∈ lq_L0 k := by
  unfold lq_M0a at h
  simp only [List.mem_append] at h
  rcases h with h | h | h | h | h | h | h | h
  · exact ⟨0, by decide, h⟩
  · exact ⟨1, by decide, h⟩
  · exact ⟨2, by decide, h⟩
  · exact ⟨3, by decide, h⟩
  · exact ⟨4, by decide, h⟩
  · exact ⟨5, by decide, h⟩
  · exact ⟨6, by decide, h⟩
  · exact ⟨7, by decide, h⟩
theorem lq_d0 {x c j : Nat} (h : x ∈ lq_M0a) (h1 : 1 ≤ c) (h2 : c ≤ 99) (hj : j < 30) : ¬ lq_ch c 13 (lq_i j x) := by
  obtain ⟨k, hk, hx⟩ := lq_m0 h
  exact lq_c2_ok (fun h hh => ⟨(lq_s0 h hh).1, fun x hx => Nat.le_of_ble_eq_true (List.all_eq_true.mp (lq_s0 h hh).2 x hx)⟩) lq_e0 hk hx h1 h2 hj
theorem lq_s1 : (∀ h, h < 8 → (lq_L1 h).length = 64 ∧ (lq_L1 h).all (fun x => Nat.blt x 2147483648) = true) := by decide +kernel
theorem lq_e1 : lq_c2 64 lq_L1 = true := by decide +kernel
theorem lq_m1 {x : Nat} (h : x ∈ lq_M1a) : ∃ k, k < 8 ∧ x ∈ lq_L1 k := by
  unfold lq_M1a at h
  simp only [List.mem_append] at h
  rcases h with h | h | h | h | h | h | h | h
  · exact ⟨0, by decide, h⟩
  · exact ⟨1, by decide, h⟩
  · exact ⟨2, by decide, h⟩
  · exact ⟨3, by decide, h⟩
  · exact ⟨4, by decide, h⟩
  · exact ⟨5, by decide, h⟩
  · exact ⟨6, by decide, h⟩
  · exact ⟨7, by decide, h⟩
theorem lq_d1 {x c j : Nat} (h : x ∈ lq_M1a) (h1 : 1 ≤ c) (h2 : c ≤ 99) (hj : j < 30) : ¬ lq_ch c 13 (lq_i j x) := by
  obtain ⟨k, hk, hx⟩ := lq_m1 h
  exact lq_c2_ok (fun h hh => ⟨(lq_s1 h hh).1, fun x hx => Nat.le_of_ble_eq_true (List.all_eq_true.mp (lq_s1 h hh).2 x hx)⟩) lq_e1 hk hx h1 h2 hj
theorem lq_s2 : (∀ h, h < 8 → (lq_L2 h).length = 64 ∧ (lq_L2 h).all (fun x => Nat.blt x 2147483648) = true) := by decide +kernel
theorem lq_e2 : lq_c2 64 lq_L2 = true := by decide +kernel
theorem lq_m2 {x : Nat} (h : x ∈ lq_M2a) : ∃ k, k < 8 ∧ x ∈ lq_L2 k := by
  unfold lq_M2a at h
  simp only [List.mem_append] at h
  rcases h with h | h | h | h | h | h | h | h
  · exact ⟨0, by decide, h⟩
  · exact ⟨1, by decide, h⟩
  · exact ⟨2, by decide, h⟩
  · exact ⟨3, by decide, h⟩
  · exact ⟨4, by decide, h⟩
  · exact ⟨5, by decide, h⟩
  · exact ⟨6, by decide, h⟩
  · exact ⟨7, by decide, h⟩
theorem lq_d2 {x c j : Nat} (h : x ∈ lq_M2a) (h1 : 1 ≤ c) (h2 : c ≤ 99) (hj : j < 30) : ¬ lq_ch c 13 (lq_i j x) := by
  obtain ⟨k, hk, hx⟩ := lq_m2 h
  exact lq_c2_ok (fun h hh => ⟨(lq_s2 h hh).1, fun x hx => Nat.le_of_ble_eq_true (List.all_eq_true.mp (lq_s2 h hh).2 x hx)⟩) lq_e2 hk hx h1 h2 hj
theorem lq_s3 : (∀ h, h < 8 → (lq_L3 h).length = 64 ∧ (lq_L3 h).all (fun x => Nat.blt x 2147483648) = true) := by decide +kernel
theorem lq_e3 : lq_c2 64 lq_L3 = true := by decide +kernel
theorem lq_m3 {x : Nat} (h : x ∈ lq_M3a) : ∃ k, k < 8 ∧ x ∈ lq_L3 k := by
  unfold lq_M3a at h
  simp only [List.mem_append] at h
  rcases h with h | h | h | h | h | h | h | h
  · exact ⟨0, by decide, h⟩
  · exact ⟨1, by decide, h⟩
  · exact ⟨2, by decide, h⟩
  · exact ⟨3, by decide, h⟩
  · exact ⟨4, by decide, h⟩
  · exact ⟨5, by decide, h⟩
  · exact ⟨6, by decide, h⟩
  · exact ⟨7, by decide, h⟩
theorem lq_d3 {x c j : Nat} (h : x ∈ lq_M3a) (h1 : 1 ≤ c) (h2 : c ≤ 99) (hj : j < 30) : ¬ lq_ch c 13 (lq_i j x) := by
  obtain ⟨k, hk, hx⟩ := lq_m3 h
  exact lq_c2_ok (fun h hh => ⟨(lq_s3 h hh).1, fun x hx => Nat.le_of_ble_eq_true (List.all_eq_true.mp (lq_s3 h hh).2 x hx)⟩) lq_e3 hk hx h1 h2 hj
theorem lq_s4 : (∀ h, h < 8 → (lq_L4 h).length = 64 ∧ (lq_L4 h).all (fun x => Nat.blt x 2147483648) = true) := by decide +kernel
theorem lq_e4 : lq_c2 64 lq_L4 = true := by decide +kernel
theorem lq_m4 {x : Nat} (h : x ∈ lq_M4a) : ∃ k, k < 8 ∧ x ∈ lq_L4 k := by
  unfold lq_M4a at h
  simp only [List.mem_append] at h
  rcases h with h | h | h | h | h | h | h | h
  · exact ⟨0, by decide, h⟩
  · exact ⟨1, by decide, h⟩
  · exact ⟨2, by decide, h⟩
  · exact ⟨3, by decide, h⟩
  · exact ⟨4, by decide, h⟩
  · exact ⟨5, by decide, h⟩
  · exact ⟨6, by decide, h⟩
  · exact ⟨7, by decide, h⟩
theorem lq_d4 {x c j : Nat} (h : x ∈ lq_M4a) (h1 : 1 ≤ c) (h2 : c ≤ 99) (hj : j < 30) : ¬ lq_ch c 13 (lq_i j x) := by
  obtain ⟨k, hk, hx⟩ := lq_m4 h
  exact lq_c2_ok (fun h hh => ⟨(lq_s4 h hh).1, fun x hx => Nat.le_of_ble_eq_true (List.all_eq_true.mp (lq_s4 h hh).2 x hx)⟩) lq_e4 hk hx h1 h2 hj
theorem lq_s5 : (∀ h, h < 8 → (lq_L5 h).length = 64 ∧ (lq_L5 h).all (fun x => Nat.blt x 2147483648) = true) := by decide +kernel
theorem lq_e5 : lq_c2 64 lq_L5 = true := by decide +kernel
theorem lq_m5 {x : Nat} (h : x ∈ lq_M5a) : ∃ k, k < 8 ∧ x ∈ lq_L5 k := by
  unfold lq_M5a at h
  simp only [List.mem_append] at h
  rcases h with h | h | h | h | h | h | h | h
  · exact ⟨0, by decide, h⟩
  · exact ⟨1, by decide, h⟩
  · exact ⟨2, by decide, h⟩
  · exact ⟨3, by decide, h⟩
  · exact ⟨4, by decide, h⟩
  · exact ⟨5, by decide, h⟩
  · exact ⟨6, by decide, h⟩
  · exact ⟨7, by decide, h⟩
theorem lq_d5 {x c j : Nat} (h : x ∈ lq_M5a) (h1 : 1 ≤ c) (h2 : c ≤ 99) (hj : j < 30) : ¬ lq_ch c 13 (lq_i j x) := by
  obtain ⟨k, hk, hx⟩ := lq_m5 h
  exact lq_c2_ok (fun h hh => ⟨(lq_s5 h hh).1, fun x hx => Nat.le_of_ble_eq_true (List.all_eq_true.mp (lq_s5 h hh).2 x hx)⟩) lq_e5 hk hx h1 h2 hj
theorem lq_s6 : (∀ h, h < 8 → (lq_L6 h).length = 64 ∧ (lq_L6 h).all (fun x => Nat.blt x 2147483648) = true) := by decide +kernel
theorem lq_e6 : lq_c2 64 lq_L6 = true := by decide +kernel
theorem lq_m6 {x : Nat} (h : x ∈ lq_M6a) : ∃ k, k < 8 ∧ x ∈ lq_L6 k := by
  unfold lq_M6a at h
  simp only [List.mem_append] at h
  rcases h with h | h | h | h | h | h | h | h
  · exact ⟨0, by decide, h⟩
  · exact ⟨1, by decide, h⟩
  · exact ⟨2, by decide, h⟩
  · exact ⟨3, by decide, h⟩
  · exact ⟨4, by decide, h⟩
  · exact ⟨5, by decide, h⟩
  · exact ⟨6, by decide, h⟩
  · exact ⟨7, by decide, h⟩
theorem lq_d6 {x c j : Nat} (h : x ∈ lq_M6a) (h1 : 1 ≤ c) (h2 : c ≤ 99) (hj : j < 30) : ¬ lq_ch c 13 (lq_i j x) := by
  obtain ⟨k, hk, hx⟩ := lq_m6 h
  exact lq_c2_ok (fun h hh => ⟨(lq_s6 h hh).1, fun x hx => Nat.le_of_ble_eq_true (List.all_eq_true.mp (lq_s6 h hh).2 x hx)⟩) lq_e6 hk hx h1 h2 hj
theorem lq_s7 : (∀ h, h < 8 → (lq_L7 h).length = 64 ∧ (lq_L7 h).all (fun x => Nat.blt x 2147483648) = true) := by decide +kernel
theorem lq_e7 : lq_c2 64 lq_L7 = true := by decide +kernel
theorem lq_m7 {x : Nat} (h : x ∈ lq_M7a) : ∃ k, k < 8 ∧ x ∈ lq_L7 k := by
  unfold lq_M7a at h
  simp only [List.mem_append] at h
  rcases h with h | h | h | h | h | h | h | h
  · exact ⟨0, by decide, h⟩
  · exact ⟨1, by decide, h⟩
  · exact ⟨2, by decide, h⟩
  · exact ⟨3, by decide, h⟩
  · exact ⟨4, by decide, h⟩
  · exact ⟨5, by decide, h⟩
  · exact ⟨6, by decide, h⟩
  · exact ⟨7, by decide, h⟩
theorem lq_d7 {x c j : Nat} (h : x ∈ lq_M7a) (h1 : 1 ≤ c) (h2 : c ≤ 99) (hj : j < 30) : ¬ lq_ch c 13 (lq_i j x) := by
  obtain ⟨k, hk, hx⟩ := lq_m7 h
  exact lq_c2_ok (fun h hh => ⟨(lq_s7 h hh).1, fun x hx => Nat.le_of_ble_eq_true (List.all_eq_true.mp (lq_s7 h hh).2 x hx)⟩) lq_e7 hk hx h1 h2 hj
theorem lq_s8 : (∀ h, h < 8 → (lq_L8 h).length = 64 ∧ (lq_L8 h).all (fun x => Nat.blt x 2147483648) = true) := by decide +kernel
theorem lq_e8 : lq_c2 64 lq_L8 = true := by decide +kernel
theorem lq_m8 {x : Nat} (h : x ∈ lq_M8a) : ∃ k, k < 8 ∧ x ∈ lq_L8 k := by
  unfold lq_M8a at h
  simp only [List.mem_append] at h
  rcases h with h | h | h | h | h | h | h | h
  · exact ⟨0, by decide, h⟩
  · exact ⟨1, by decide, h⟩
  · exact ⟨2, by decide, h⟩
  · exact ⟨3, by decide, h⟩
  · exact ⟨4, by decide, h⟩
  · exact ⟨5, by decide, h⟩
  · exact ⟨6, by decide, h⟩
  · exact ⟨7, by decide, h⟩
theorem lq_d8 {x c j : Nat} (h : x ∈ lq_M8a) (h1 : 1 ≤ c) (h2 : c ≤ 99) (hj : j < 30) : ¬ lq_ch c 13 (lq_i j x) := by
  obtain ⟨k, hk, hx⟩ := lq_m8 h
  exact lq_c2_ok (fun h hh => ⟨(lq_s8 h hh).1, fun x hx => Nat.le_of_ble_eq_true (List.all_eq_true.mp (lq_s8 h hh).2 x hx)⟩) lq_e8 hk hx h1 h2 hj
theorem lq_s9 : (∀ h, h < 8 → (lq_L9 h).length = 64 ∧ (lq_L9 h).all (fun x => Nat.blt x 2147483648) = true) := by decide +kernel
theorem lq_e9 : lq_c2 64 lq_L9 = true := by decide +kernel
theorem lq_m9 {x : Nat} (h : x ∈ lq_M9a) : ∃ k, k < 8 ∧ x ∈ lq_L9 k := by
  unfold lq_M9a at h
  simp only [List.mem_append] at h
  rcases h with h | h | h | h | h | h | h | h
  · exact ⟨0, by decide, h⟩
  · exact ⟨1, by decide, h⟩
  · exact ⟨2, by decide, h⟩
  · exact ⟨3, by decide, h⟩
  · exact ⟨4, by decide, h⟩
  · exact ⟨5, by decide, h⟩
  · exact ⟨6, by decide, h⟩
  · exact ⟨7, by decide, h⟩
theorem lq_d9 {x c j : Nat} (h : x ∈ lq_M9a) (h1 : 1 ≤ c) (h2 : c ≤ 99) (hj : j < 30) : ¬ lq_ch c 13 (lq_i j x) := by
  obtain ⟨k, hk, hx⟩ := lq_m9 h
  exact lq_c2_ok (fun h hh => ⟨(lq_s9 h hh).1, fun x hx => Nat.le_of_ble_eq_true (List.all_eq_true.mp (lq_s9 h hh).2 x hx)⟩) lq_e9 hk hx h1 h2 hj
theorem lq_s10 : (∀ h, h < 8 → (lq_L10 h).length = 64 ∧ (lq_L10 h).all (fun x => Nat.blt x 2147483648) = true) := by decide +kernel
theorem lq_e10 : lq_c2 64 lq_L10 = true := by decide +kernel
theorem lq_m10 {x : Nat} (h : x ∈ lq_M10a) : ∃ k, k < 8 ∧ x ∈ lq_L10 k := by
  unfold lq_M10a at h
  simp only [List.mem_append] at h
  rcases h with h | h | h | h | h | h | h | h
  · exact ⟨0, by decide, h⟩
  · exact ⟨1, by decide, h⟩
  · exact ⟨2, by decide, h⟩
  · exact ⟨3, by decide, h⟩
  · exact ⟨4, by decide, h⟩
  · exact ⟨5, by decide, h⟩
  · exact ⟨6, by decide, h⟩
  · exact ⟨7, by decide, h⟩
theorem lq_d10 {x c j : Nat} (h : x ∈ lq_M10a) (h1 : 1 ≤ c) (h2 : c ≤ 99) (hj : j < 30) : ¬ lq_ch c 13 (lq_i j x) := by
  obtain ⟨k, hk, hx⟩ := lq_m10 h
  exact lq_c2_ok (fun h hh => ⟨(lq_s10 h hh).1, fun x hx => Nat.le_of_ble_eq_true (List.all_eq_true.mp (lq_s10 h hh).2 x hx)⟩) lq_e10 hk hx h1 h2 hj
theorem lq_s11 : (∀ h, h < 8 → (lq_L11 h).length = 64 ∧ (lq_L11 h).all (fun x => Nat.blt x 2147483648) = true) := by decide +kernel
theorem lq_e11 : lq_c2 64 lq_L11 = true := by decide +kernel
theorem lq_m11 {x : Nat} (h : x ∈ lq_M11a) : ∃ k, k < 8 ∧ x ∈ lq_L11 k := by
  unfold lq_M11a at h
  simp only [List.mem_append] at h
  rcases h with h | h | h | h | h | h | h | h
  · exact ⟨0, by decide, h⟩
  · exact ⟨1, by decide, h⟩
  · exact ⟨2, by decide, h⟩
  · exact ⟨3, by decide, h⟩
  · exact ⟨4, by decide, h⟩
  · exact ⟨5, by decide, h⟩
  · exact ⟨6, by decide, h⟩
  · exact ⟨7, by decide, h⟩
theorem lq_d11 {x c j : Nat} (h : x ∈ lq_M11a) (h1 : 1 ≤ c) (h2 : c ≤ 99) (hj : j < 30) : ¬ lq_ch c 13 (lq_i j x) := by
  obtain ⟨k, hk, hx⟩ := lq_m11 h
  exact lq_c2_ok (fun h hh => ⟨(lq_s11 h hh).1, fun x hx => Nat.le_of_ble_eq_true (List.all_eq_true.mp (lq_s11 h hh).2 x hx)⟩) lq_e11 hk hx h1 h2 hj
theorem lq_s12 : (∀ h, h < 8 → (lq_L12 h).length = 64 ∧ (lq_L12 h).all (fun x => Nat.blt x 2147483648) = true) := by decide +kernel
theorem lq_e12 : lq_c2 64 lq_L12 = true := by decide +kernel
theorem lq_m12 {x : Nat} (h : x ∈ lq_M12a) : ∃ k, k < 8 ∧ x ∈ lq_L12 k := by
  unfold lq_M12a at h
  simp only [List.mem_append] at h
  rcases h with h | h | h | h | h | h | h | h
  · exact ⟨0, by decide, h⟩
  · exact ⟨1, by decide, h⟩
  · exact ⟨2, by decide, h⟩
  · exact ⟨3, by decide, h⟩
  · exact ⟨4, by decide, h⟩
  · exact ⟨5, by decide, h⟩
  · exact ⟨6, by decide, h⟩
  · exact ⟨7, by decide, h⟩
theorem lq_d12 {x c j : Nat} (h : x ∈ lq_M12a) (h1 : 1 ≤ c) (h2 : c ≤ 99) (hj : j < 30) : ¬ lq_ch c 13 (lq_i j x) := by
  obtain ⟨k, hk, hx⟩ := lq_m12 h
  exact lq_c2_ok (fun h hh => ⟨(lq_s12 h hh).1, fun x hx => Nat.le_of_ble_eq_true (List.all_eq_true.mp (lq_s12 h hh).2 x hx)⟩) lq_e12 hk hx h1 h2 hj
theorem lq_s13 : (∀ h, h < 8 → (lq_L13 h).length = 64 ∧ (lq_L13 h).all (fun x => Nat.blt x 2147483648) = true) := by decide +kernel
theorem lq_e13 : lq_c2 64 lq_L13 = true := by decide +kernel
theorem lq_m13 {x : Nat} (h : x ∈ lq_M13a) : ∃ k, k < 8 ∧ x ∈ lq_L13 k := by
  unfold lq_M13a at h
  simp only [List.mem_append] at h
  rcases h with h | h | h | h | h | h | h | h
  · exact ⟨0, by decide, h⟩
  · exact ⟨1, by decide, h⟩
  · exact ⟨2, by decide, h⟩
  · exact ⟨3, by decide, h⟩
  · exact ⟨4, by decide, h⟩
  · exact ⟨5, by decide, h⟩
  · exact ⟨6, by decide, h⟩
  · exact ⟨7, by decide, h⟩
theorem lq_d13 {x c j : Nat} (h : x ∈ lq_M13a) (h1 : 1 ≤ c) (h2 : c ≤ 99) (hj : j < 30) : ¬ lq_ch c 13 (lq_i j x) := by
  obtain ⟨k, hk, hx⟩ := lq_m13 h
  exact lq_c2_ok (fun h hh => ⟨(lq_s13 h hh).1, fun x hx => Nat.le_of_ble_eq_true (List.all_eq_true.mp (lq_s13 h hh).2 x hx)⟩) lq_e13 hk hx h1 h2 hj
theorem lq_s14 : (∀ h, h < 8 → (lq_L14 h).length = 64 ∧ (lq_L14 h).all (fun x => Nat.blt x 2147483648) = true) := by decide +kernel
theorem lq_e14 : lq_c2 64 lq_L14 = true := by decide +kernel
theorem lq_m14 {x : Nat} (h : x ∈ lq_M14a) : ∃ k, k < 8 ∧ x ∈ lq_L14 k := by
  unfold lq_M14a at h
  simp only [List.mem_append] at h
  rcases h with h | h | h | h | h | h | h | h
  · exact ⟨0, by decide, h⟩
  · exact ⟨1, by decide, h⟩
  · exact ⟨2, by decide, h⟩
  · exact ⟨3, by decide, h⟩
  · exact ⟨4, by decide, h⟩
  · exact ⟨5, by decide, h⟩
  · exact ⟨6, by decide, h⟩
  · exact ⟨7, by decide, h⟩
theorem lq_d14 {x c j : Nat} (h : x ∈ lq_M14a) (h1 : 1 ≤ c) (h2 : c ≤ 99) (hj : j < 30) : ¬ lq_ch c 13 (lq_i j x) := by
  obtain ⟨k, hk, hx⟩ := lq_m14 h
  exact lq_c2_ok (fun h hh => ⟨(lq_s14 h hh).1, fun x hx => Nat.le_of_ble_eq_true (List.all_eq_true.mp (lq_s14 h hh).2 x hx)⟩) lq_e14 hk hx h1 h2 hj
theorem lq_s15 : (∀ h, h < 8 → (lq_L15 h).length = 64 ∧ (lq_L15 h).all (fun x => Nat.blt x 2147483648) = true) := by decide +kernel
theorem lq_e15 : lq_c2 64 lq_L15 = true := by decide +kernel
theorem lq_m15 {x : Nat} (h : x ∈ lq_M15a) : ∃ k, k < 8 ∧ x ∈ lq_L15 k := by
  unfold lq_M15a at h
  simp only [List.mem_append] at h
  rcases h with h | h | h | h | h | h | h | h
  · exact ⟨0, by decide, h⟩
  · exact ⟨1, by decide, h⟩
  · exact ⟨2, by decide, h⟩
  · exact ⟨3, by decide, h⟩
  · exact ⟨4, by decide, h⟩
  · exact ⟨5, by decide, h⟩
  · exact ⟨6, by decide, h⟩
  · exact ⟨7, by decide, h⟩
theorem lq_d15 {x c j : Nat} (h : x ∈ lq_M15a) (h1 : 1 ≤ c) (h2 : c ≤ 99) (hj : j < 30) : ¬ lq_ch c 13 (lq_i j x) := by
  obtain ⟨k, hk, hx⟩ := lq_m15 h
  exact lq_c2_ok (fun h hh => ⟨(lq_s15 h hh).1, fun x hx => Nat.le_of_ble_eq_true (List.all_eq_true.mp (lq_s15 h hh).2 x hx)⟩) lq_e15 hk hx h1 h2 hj
theorem lq_dx : ∀ g, g < 16 → ∀ {x c j : Nat}, x ∈ lq_Mx g → 1 ≤ c → c ≤ 99 → j < 30 → ¬ lq_ch c 13 (lq_i j x) := by
  intro g hg x c j hx h1 h2 hj
  have cc : g = 0 ∨ g = 1 ∨ g = 2 ∨ g = 3 ∨ g = 4 ∨ g = 5 ∨ g = 6 ∨ g = 7 ∨ g = 8 ∨ g = 9 ∨ g = 10 ∨ g = 11 ∨ g = 12 ∨ g = 13 ∨ g = 14 ∨ g = 15 := by omega
  rcases cc with e | e | e | e | e | e | e | e | e | e | e | e | e | e | e | e <;> subst e
  · exact lq_d0 hx h1 h2 hj
  · exact lq_d1 hx h1 h2 hj
  · exact lq_d2 hx h1 h2 hj
  · exact lq_d3 hx h1 h2 hj
  · exact lq_d4 hx h1 h2 hj
  · exact lq_d5 hx h1 h2 hj
  · exact lq_d6 hx h1 h2 hj
  · exact lq_d7 hx h1 h2 hj
  · exact lq_d8 hx h1 h2 hj
  · exact lq_d9 hx h1 h2 hj
  · exact lq_d10 hx h1 h2 hj
  · exact lq_d11 hx h1 h2 hj
  · exact lq_d12 hx h1 h2 hj
  · exact lq_d13 hx h1 h2 hj
  · exact lq_d14 hx h1 h2 hj
  · exact lq_d15 hx h1 h2 hj
/-- all chunks hold -/
def lq_all : Prop := ∀ q, q < 512 → lq_c1 2048 (4194304 * q) (lq_Mx (q / 32)) = true
theorem lq_cp (H : lq_all) {x c j : Nat} (hx : x < 2147483648) (h0 : x % 256 = 0) (h1 : 1 ≤ c) (h2 : c ≤ 99) (hj : j < 30) : ¬ lq_ch c 13 (lq_i j x) := by
  intro w
  have hq : x / 4194304 < 512 := by omega
  have e : 4194304 * (x / 4194304) + 256 * 2048 * (x % 4194304 / 524288) + 256 * (x % 524288 / 256) = x := by omega
  have := lq_c1_ok (n := 2048) (b := 4194304 * (x / 4194304)) (i := x % 524288 / 256) (h := x % 4194304 / 524288) (j := j) (by decide) (by omega) (H _ hq) (by omega) (by omega) h1 h2 hj (by rw [e]; exact lq_ch_le (by decide) w)
  rw [e] at this
  exact lq_dx _ (by omega) this h1 h2 hj w
/-- no chain of 26 perfect turns -/
theorem lq_fin (H : lq_all) {x c : Nat} (hx : x < 2147483648) (h1 : 1 ≤ c) (h2 : c ≤ 99) : ¬ lq_ch c 26 x := by
  intro w
  obtain ⟨m0, hm, e⟩ := lq_near x
  obtain ⟨j, m, hj, hc, k⟩ := lq_walk (m0 := m0) 26 0 (Nat.zero_le _) w (by omega)
  rw [lq_i_add] at hc
  exact lq_cp H (lq_i_lt hx) e h1 h2 hj (lq_ch_le (by omega) hc)
