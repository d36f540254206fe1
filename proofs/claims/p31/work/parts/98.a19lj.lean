theorem lq_six_m {x : Nat} (h : x < 6) : x ∈ lq_six := by
  have c : x = 0 ∨ x = 1 ∨ x = 2 ∨ x = 3 ∨ x = 4 ∨ x = 5 := by omega
  rcases c with c | c | c | c | c | c <;> subst c <;> decide
theorem lq_mem_iff {L : List Nat} {j : Nat} : lq_mem L j = true ↔ j ∈ L := by
  unfold lq_mem
  rw [List.any_eq_true]
  constructor
  · rintro ⟨x, hx, e⟩
    rw [← Nat.eq_of_beq_eq_true e]
    exact hx
  · intro h
    exact ⟨j, h, Nat.beq_refl j⟩
theorem lq_pick_m {L : List Nat} {x : Nat} (h : x < 6) (n : x ∉ L) : x ∈ lq_pick L := by
  unfold lq_pick
  rw [List.mem_filter]
  refine ⟨lq_six_m h, ?_⟩
  cases e : lq_mem L x with
  | true => exact absurd (lq_mem_iff.mp e) n
  | false => rfl
theorem lq_bne {a b : Nat} (h : a ≠ b) : (!(Nat.beq a b)) = true := by
  cases e : Nat.beq a b with
  | true => exact absurd (Nat.eq_of_beq_eq_true e) h
  | false => rfl
theorem lq_df_ok {g0 g1 g2 g3 g4 g5 : Nat} (h01 : g0 ≠ g1) (h02 : g0 ≠ g2) (h12 : g1 ≠ g2) (h03 : g0 ≠ g3) (h13 : g1 ≠ g3) (h23 : g2 ≠ g3) (h04 : g0 ≠ g4) (h14 : g1 ≠ g4) (h24 : g2 ≠ g4) (h34 : g3 ≠ g4) (h05 : g0 ≠ g5) (h15 : g1 ≠ g5) (h25 : g2 ≠ g5) (h35 : g3 ≠ g5) (h45 : g4 ≠ g5) : lq_df g0 g1 g2 g3 g4 g5 = true := by
  unfold lq_df
  simp only [lq_bne h01, lq_bne h02, lq_bne h12, lq_bne h03, lq_bne h13, lq_bne h23, lq_bne h04, lq_bne h14, lq_bne h24, lq_bne h34, lq_bne h05, lq_bne h15, lq_bne h25, lq_bne h35, lq_bne h45, Bool.and_self]
theorem lq_chk_ok {g0 g1 g2 g3 g4 g5 : Nat} {s2 s3 : Bool} (l0 : g0 < 6) (l1 : g1 < 6) (l2 : g2 < 6) (l3 : g3 < 6) (l4 : g4 < 6) (l5 : g5 < 6) (h01 : g0 ≠ g1) (h02 : g0 ≠ g2) (h12 : g1 ≠ g2) (h03 : g0 ≠ g3) (h13 : g1 ≠ g3) (h23 : g2 ≠ g3) (h04 : g0 ≠ g4) (h14 : g1 ≠ g4) (h24 : g2 ≠ g4) (h34 : g3 ≠ g4) (h05 : g0 ≠ g5) (h15 : g1 ≠ g5) (h25 : g2 ≠ g5) (h35 : g3 ≠ g5) (h45 : g4 ≠ g5) : lq_chk g0 g1 g2 g3 g4 g5 s2 s3 = true := by
  have a0 := List.all_eq_true.mp lq_perms g0 (lq_six_m l0)
  have a1 := List.all_eq_true.mp a0 g1 (lq_pick_m l1 (by simp; omega))
  have a2 := List.all_eq_true.mp a1 g2 (lq_pick_m l2 (by simp; omega))
  have a3 := List.all_eq_true.mp a2 g3 (lq_pick_m l3 (by simp; omega))
  have a4 := List.all_eq_true.mp a3 g4 (lq_pick_m l4 (by simp; omega))
  have a5 := List.all_eq_true.mp a4 g5 (lq_pick_m l5 (by simp; omega))
  have a6 : (!(lq_df g0 g1 g2 g3 g4 g5) || (lq_chk g0 g1 g2 g3 g4 g5 false false && (lq_chk g0 g1 g2 g3 g4 g5 false true && (lq_chk g0 g1 g2 g3 g4 g5 true false && lq_chk g0 g1 g2 g3 g4 g5 true true)))) = true := a5
  rw [lq_df_ok h01 h02 h12 h03 h13 h23 h04 h14 h24 h34 h05 h15 h25 h35 h45] at a6
  simp only [Bool.not_true, Bool.false_or, Bool.and_eq_true] at a6
  obtain ⟨b1, b2, b3, b4⟩ := a6
  cases s2 <;> cases s3
  · exact b1
  · exact b2
  · exact b3
  · exact b4
theorem lq_cd_ok {C : List Nat} {mk : Nat → Nat} {n : Nat → Bool} {w : Nat} (hw : w ∈ C) (hn : n (mk w) = true) : ∃ L, lq_cd C mk = some L ∧ ∀ j, j ∈ L → n j = true := by
  cases C with
  | nil => exact absurd hw (by simp)
  | cons a C =>
    cases C with
    | nil =>
      have e : w = a := by simpa using hw
      refine ⟨[mk a], rfl, fun j hj => ?_⟩
      have : j = mk a := by simpa using hj
      rw [this, ← e]
      exact hn
    | cons b C => exact ⟨[], rfl, fun j hj => absurd hj (by simp)⟩
theorem lq_Gx_m {s : Nat} {n l m k : Nat → Bool} (hn : ∀ j, n j = true → m j = true) (hl : ∀ j, l j = true → k j = true) (h : lq_Gx s n l = true) : lq_Gx s m k = true := by
  unfold lq_Gx at *
  by_cases c4 : s = 4
  · rw [if_pos c4] at *
    exact lq_M4 (fun j _ => hn j) (fun j _ => hl j) h
  · rw [if_neg c4] at *
    by_cases c5 : s = 5
    · rw [if_pos c5] at *
      exact lq_M5 (fun j _ => hn j) (fun j _ => hl j) h
    · rw [if_neg c5] at *
      by_cases c6 : s = 6
      · rw [if_pos c6] at *
        exact lq_M6 (fun j _ => hn j) (fun j _ => hl j) h
      · rw [if_neg c6] at h
        exact absurd h (by decide)
theorem lq_bt_ok {a b w : Nat} (h : (a < w ∧ w < b) ∨ (b < w ∧ w < a)) : lq_bt a b w = true := by
  unfold lq_bt
  rcases h with ⟨x, y⟩ | ⟨x, y⟩
  · rw [show Nat.blt a w = true from Nat.ble_eq_true_of_le x, show Nat.blt w b = true from Nat.ble_eq_true_of_le y]; rfl
  · rw [show Nat.blt b w = true from Nat.ble_eq_true_of_le x, show Nat.blt w a = true from Nat.ble_eq_true_of_le y]; simp
theorem lq_b3 {w a b c : Nat} (h : w = a ∨ w = b ∨ w = c) : (Nat.beq w a || (Nat.beq w b || Nat.beq w c)) = true := by
  rcases h with h | h | h <;> subst h <;> simp [Nat.beq_refl]
/-- what a perfect turn asks of the draws, by gates, makes the formula true -/
theorem lq_br {n l : Nat → Bool} {g0 g1 g2 g3 g4 g5 : Nat} {s2 s3 : Bool} (l0 : g0 < 6) (l1 : g1 < 6) (l2 : g2 < 6) (l3 : g3 < 6) (l4 : g4 < 6) (l5 : g5 < 6) (h01 : g0 ≠ g1) (h02 : g0 ≠ g2) (h12 : g1 ≠ g2) (h03 : g0 ≠ g3) (h13 : g1 ≠ g3) (h23 : g2 ≠ g3) (h04 : g0 ≠ g4) (h14 : g1 ≠ g4) (h24 : g2 ≠ g4) (h34 : g3 ≠ g4) (h05 : g0 ≠ g5) (h15 : g1 ≠ g5) (h25 : g2 ≠ g5) (h35 : g3 ≠ g5) (h45 : g4 ≠ g5)
    {sn : Nat → Bool} (hs : sn = lq_sn g2 g3 s2 s3)
    (hl : ∀ f, f < 6 → sn f = true → f ≠ g5 → l (lq_ix sn f g5) = true)
    (q1 : n (lq_ix sn g0 g2) = true) (q2 : n (lq_ix sn g1 g2) = true) (q3 : n (lq_ix sn g4 g3) = true) (q4 : n (lq_ix sn g5 g3) = true) (q5 : n (lq_ix sn g5 g4) = true)
    (e2 : ∃ w, w < 6 ∧ sn w = true ∧ (w = g3 ∨ w = g4 ∨ w = g5) ∧ ((g0 < w ∧ w < g1) ∨ (g1 < w ∧ w < g0)) ∧ n (lq_ix sn w g2) = true)
    (e3 : ∃ w, w < 6 ∧ sn w = true ∧ (w = g0 ∨ w = g1 ∨ w = g2) ∧ ((g4 < w ∧ w < g5) ∨ (g5 < w ∧ w < g4)) ∧ n (lq_ix sn w g3) = true)
    (e4 : ∃ w, w < 6 ∧ sn w = true ∧ w ≠ g4 ∧ w < g5 ∧ n (lq_ix sn w g4) = true)
    (e5 : s3 = true → ∃ w, w < 6 ∧ sn w = true ∧ (w = g0 ∨ w = g1 ∨ w = g2) ∧ w < g4 ∧ w < g5 ∧ n (lq_ix sn w g3) = true) : lq_Gx (lq_rw sn 6) n l = true := by
  have ck := lq_chk_ok (s2 := s2) (s3 := s3) l0 l1 l2 l3 l4 l5 h01 h02 h12 h03 h13 h23 h04 h14 h24 h34 h05 h15 h25 h35 h45
  unfold lq_chk at ck
  rw [← hs] at ck
  obtain ⟨w2, a1, a2, a3, a4, a5⟩ := e2
  obtain ⟨A, eA, nA⟩ := lq_cd_ok (C := lq_kk2 g0 g1 g3 g4 g5 sn) (mk := fun w => lq_ix sn w g2) (n := n) (w := w2) (by unfold lq_kk2; rw [List.mem_filter]; exact ⟨lq_six_m a1, by rw [a2, lq_b3 a3, lq_bt_ok a4]; rfl⟩) a5
  obtain ⟨w3, b1, b2, b3, b4, b5⟩ := e3
  obtain ⟨B, eB, nB⟩ := lq_cd_ok (C := lq_kk3 g0 g1 g2 g4 g5 sn) (mk := fun w => lq_ix sn w g3) (n := n) (w := w3) (by unfold lq_kk3; rw [List.mem_filter]; exact ⟨lq_six_m b1, by rw [b2, lq_b3 b3, lq_bt_ok b4]; rfl⟩) b5
  obtain ⟨w4, c1, c2, c3, c4, c5⟩ := e4
  obtain ⟨C, eC, nC⟩ := lq_cd_ok (C := lq_kk4 g4 g5 sn) (mk := fun w => lq_ix sn w g4) (n := n) (w := w4) (by unfold lq_kk4; rw [List.mem_filter]; exact ⟨lq_six_m c1, by rw [c2, lq_bne c3, show Nat.blt w4 g5 = true from Nat.ble_eq_true_of_le c4]; rfl⟩) c5
  obtain ⟨D, eD, nD⟩ : ∃ D, (if s3 = true then lq_cd (lq_kk5 g0 g1 g2 g4 g5 sn) (fun w => lq_ix sn w g3) else some []) = some D ∧ ∀ j, j ∈ D → n j = true := by
    by_cases c : s3 = true
    · rw [if_pos c]
      obtain ⟨w5, d1, d2, d3, d4, d5, d6⟩ := e5 c
      exact lq_cd_ok (C := lq_kk5 g0 g1 g2 g4 g5 sn) (mk := fun w => lq_ix sn w g3) (n := n) (w := w5) (by unfold lq_kk5; rw [List.mem_filter]; exact ⟨lq_six_m d1, by rw [d2, lq_b3 d3, show Nat.blt w5 g4 = true from Nat.ble_eq_true_of_le d4, show Nat.blt w5 g5 = true from Nat.ble_eq_true_of_le d5]; rfl⟩) d6
    · rw [if_neg c]
      exact ⟨[], rfl, fun j hj => absurd hj (by simp)⟩
  have eN : lq_nl g0 g1 g2 g3 g4 g5 s3 sn = some (lq_ix sn g0 g2 :: lq_ix sn g1 g2 :: lq_ix sn g4 g3 :: lq_ix sn g5 g3 :: lq_ix sn g5 g4 :: (A ++ (B ++ (C ++ D)))) := by
    unfold lq_nl
    rw [eA, eB, eC, eD]
  rw [eN] at ck
  refine lq_Gx_m (fun j hj => ?_) (fun j hj => ?_) ck
  · have m := lq_mem_iff.mp hj
    simp only [List.mem_cons, List.mem_append] at m
    rcases m with m | m | m | m | m | m | m | m | m
    · rw [m]; exact q1
    · rw [m]; exact q2
    · rw [m]; exact q3
    · rw [m]; exact q4
    · rw [m]; exact q5
    · exact nA j m
    · exact nB j m
    · exact nC j m
    · exact nD j m
  · have m := lq_mem_iff.mp hj
    unfold lq_lf at m
    rw [List.mem_map] at m
    obtain ⟨f, hf, e⟩ := m
    rw [List.mem_filter, Bool.and_eq_true] at hf
    obtain ⟨f6, fs, fn⟩ := hf
    rw [← e]
    refine hl f ?_ fs (fun w => ?_)
    · have : f ∈ [0, 1, 2, 3, 4, 5] := f6
      simp at this
      omega
    · rw [w, Nat.beq_refl] at fn
      exact absurd fn (by decide)
