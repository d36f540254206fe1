/-! what a member counts: among the three strongest, among the others, the weakest -/
def tq_r (v : Int) : Int := if 3 ≤ v then 0 else if v = 2 then 1 else 2
def tq_X (h : Nat) : Int := if h = 2 then 1 else 0
def tq_Y (h : Nat) (v : Int) : Int := if h = 2 then -1 else if h = 1 then - tq_r v else 0
def tq_Z (h : Nat) (v : Int) : Int := if h = 2 then -1 else if h = 1 then (if 3 ≤ v then 2 else if v = 2 then 1 else if v = 1 then 0 else -2) else 0
/-- ahead of the letters: who sends, clocks -/
def tq_s (snd : Prop) (h : Nat) (v : Int) (s : Nat × Int × Nat) : Prop :=
  (h = 0 ∧ ¬ snd ∧ s.1 = 0 ∧ s.2.2 = 0) ∨ (h = 2 ∧ s.1 = 2 ∧ s.2.2 = 0) ∨ (h = 1 ∧ v ≤ 0 ∧ s.1 = 2 ∧ s.2.2 = 1) ∨ (h = 1 ∧ 0 < v ∧ ¬ snd ∧ s.1 = 1 ∧ s.2.1 = v - 1 ∧ s.2.2 = 0)
theorem tq_dn {τ : Nat → Nat} {s s' : Nat × Int × Nat} (h : s.1 = 0) : ∀ {n : Nat}, tq_g τ 0 n s s' → s' = s := by
  intro n
  induction n generalizing s' with
  | zero => intro w; exact w
  | succ n ih =>
    intro w
    obtain ⟨t, h1, h2⟩ := w
    have e := ih h1
    subst e
    rcases h2 with ⟨-, e⟩ | ⟨-, ⟨c, -⟩ | ⟨c, -⟩⟩ | ⟨-, ⟨c, -⟩ | ⟨c, -⟩ | ⟨c, -⟩⟩
    · exact e
    all_goals omega
/-- one of the three strongest -/
theorem tq_vX {snd : Prop} {h : Nat} {v : Int} {τ : Nat → Nat} {s s' : Nat × Int × Nat} (a : tq_s snd h v s) (b : tq_g τ 0 6 s s') : ∃ G : Nat, ((s'.2.2 : Int) - (tq_X s'.1 - tq_X h) = 2 * (G : Int)) ∧ G ≤ tq_c 1 τ 0 6 ∧ (h = 0 → G = 0) ∧ (s.1 = 1 ∨ s.1 = 2 → s.2.2 + tq_h s' + 2 * G = s'.2.2 + tq_h s) := by
  rcases a with ⟨e, -, e1, e2⟩ | ⟨e, e1, e2⟩ | ⟨e, -, e1, e2⟩ | ⟨e, -, -, e1, -, e2⟩
  · have := tq_dn e1 b
    subst this
    refine ⟨0, ?_, Nat.zero_le _, fun _ => rfl, fun w => by omega⟩
    rw [e2, e1, e]; rfl
  all_goals
    obtain ⟨u, -, G, B, g, -, m, k⟩ := tq_up (by omega) b
    refine ⟨G, ?_, g, fun w => by omega, fun _ => by omega⟩
    unfold tq_h at k
    unfold tq_X
    rcases u with u | u
    · rw [if_neg (by omega)] at k
      rw [if_neg (by omega)]
      first
        | (rw [if_pos e1] at k; rw [if_pos e]; omega)
        | (rw [if_pos e1] at k; rw [if_neg (by omega)]; omega)
        | (rw [if_neg (by omega)] at k; rw [if_neg (by omega)]; omega)
    · rw [if_pos u] at k
      rw [if_pos u]
      first
        | (rw [if_pos e1] at k; rw [if_pos e]; omega)
        | (rw [if_pos e1] at k; rw [if_neg (by omega)]; omega)
        | (rw [if_neg (by omega)] at k; rw [if_neg (by omega)]; omega)
theorem tq_r_b (v : Int) : 0 ≤ tq_r v ∧ tq_r v ≤ 2 := by unfold tq_r; split <;> (try split) <;> omega
theorem tq_r_dec {v : Int} (h : 0 < v) : tq_r (v - 1) - tq_r v ≤ 1 := by unfold tq_r; split <;> (try split) <;> (try split) <;> (try split) <;> omega
/-- one of the others, but the weakest -/
theorem tq_vY {snd : Prop} {h : Nat} {v : Int} {τ : Nat → Nat} {s s' : Nat × Int × Nat} (a : tq_s snd h v s) (b : tq_g τ 0 6 s s') : (∃ B : Nat, ((s'.2.2 : Int) - (tq_Y s'.1 s'.2.1 - tq_Y h v) ≤ 2 * (B : Int)) ∧ B ≤ tq_c 2 τ 0 6 ∧ (h = 0 → B = 0) ∧ (s.1 = 1 ∨ s.1 = 2 → s.2.2 + tq_h s + 2 * B = s'.2.2 + tq_h s')) ∨ ((s'.2.2 : Int) - (tq_Y s'.1 s'.2.1 - tq_Y h v) ≤ 1 ∧ ¬ snd ∧ h = 1) := by
  rcases a with ⟨e, -, e1, e2⟩ | ⟨e, e1, e2⟩ | ⟨e, ev, e1, e2⟩ | ⟨e, ev, ns, e1, e3, e2⟩
  · have := tq_dn e1 b
    subst this
    refine Or.inl ⟨0, ?_, Nat.zero_le _, fun _ => rfl, fun w => by omega⟩
    unfold tq_Y
    rw [e2, e1, e]
    simp
  · obtain ⟨u, d, G, B, -, g, m, k⟩ := tq_up (by omega) b
    refine Or.inl ⟨B, ?_, g, fun w => by omega, fun _ => by omega⟩
    unfold tq_h at k
    rw [if_pos e1] at k
    unfold tq_Y
    rw [if_pos e]
    rcases u with u | u
    · rw [if_neg (by omega)] at k
      rw [if_neg (by omega), if_pos u]
      have d3 : 3 ≤ s'.2.1 := by
        rcases d with d | d | d
        · rw [d] at u; omega
        · omega
        · exact d
      rw [show tq_r s'.2.1 = 0 from if_pos d3]
      omega
    · rw [if_pos u] at k
      rw [if_pos u]
      omega
  · obtain ⟨u, d, G, B, -, g, m, k⟩ := tq_up (by omega) b
    refine Or.inl ⟨B, ?_, g, fun w => by omega, fun _ => by omega⟩
    unfold tq_h at k
    rw [if_pos e1] at k
    have r2 : tq_r v = 2 := by unfold tq_r; rw [if_neg (by omega), if_neg (by omega)]
    unfold tq_Y
    rw [if_neg (show ¬ h = 2 by omega), if_pos e, r2]
    rcases u with u | u
    · rw [if_neg (by omega)] at k
      rw [if_neg (by omega), if_pos u]
      have d3 : 3 ≤ s'.2.1 := by
        rcases d with d | d | d
        · rw [d] at u; omega
        · omega
        · exact d
      rw [show tq_r s'.2.1 = 0 from if_pos d3]
      omega
    · rw [if_pos u] at k
      rw [if_pos u]
      omega
  · obtain ⟨u, d, G, B, -, g, m, k⟩ := tq_up (by omega) b
    have rb := tq_r_b v
    unfold tq_h at k
    rw [if_neg (show ¬ s.1 = 2 by omega)] at k
    have yv : tq_Y h v = - tq_r v := by unfold tq_Y; rw [if_neg (by omega), if_pos e]
    rw [yv]
    rcases d with d | d | d
    · subst d
      refine Or.inr ⟨?_, ns, e⟩
      have := tq_r_dec ev
      unfold tq_Y
      rw [if_neg (by omega), if_pos e1, e3, e2]
      omega
    · refine Or.inl ⟨B, ?_, g, fun w => by omega, fun _ => by unfold tq_h; rw [if_neg (show ¬ s.1 = 2 by omega), if_pos d]; rw [if_pos d] at k; omega⟩
      rw [if_pos d] at k
      unfold tq_Y
      rw [if_pos d]
      omega
    · rcases u with u | u
      · refine Or.inl ⟨B, ?_, g, fun w => by omega, fun _ => by unfold tq_h; rw [if_neg (show ¬ s.1 = 2 by omega), if_neg (show ¬ s'.1 = 2 by omega)]; rw [if_neg (show ¬ s'.1 = 2 by omega)] at k; omega⟩
        rw [if_neg (show ¬ s'.1 = 2 by omega)] at k
        unfold tq_Y
        rw [if_neg (by omega), if_pos u, show tq_r s'.2.1 = 0 from if_pos d]
        omega
      · refine Or.inl ⟨B, ?_, g, fun w => by omega, fun _ => by unfold tq_h; rw [if_neg (show ¬ s.1 = 2 by omega), if_pos u]; rw [if_pos u] at k; omega⟩
        rw [if_pos u] at k
        unfold tq_Y
        rw [if_pos u]
        omega
/-- the weakest: no weaker one's letter -/
theorem tq_vZ {snd : Prop} {h : Nat} {v : Int} {τ : Nat → Nat} {s s' : Nat × Int × Nat} (a : tq_s snd h v s) (b : tq_g τ 0 6 s s') (n2 : ∀ f, f < 6 → τ f ≠ 2) : ((s'.2.2 : Int) - (tq_Z s'.1 s'.2.1 - tq_Z h v) ≤ 0 ∨ ((s'.2.2 : Int) - (tq_Z s'.1 s'.2.1 - tq_Z h v) ≤ 2 ∧ ¬ snd ∧ h = 1)) ∧ (s.1 = 2 → s'.1 ≠ 2 → (s'.2.2 : Int) - (tq_Z s'.1 s'.2.1 - tq_Z h v) ≤ -2) := by
  rcases a with ⟨e, -, e1, e2⟩ | ⟨e, e1, e2⟩ | ⟨e, ev, e1, e2⟩ | ⟨e, ev, ns, e1, e3, e2⟩
  · have := tq_dn e1 b
    subst this
    refine ⟨Or.inl ?_, fun w => by omega⟩
    unfold tq_Z
    rw [e2, e1, e]
    simp
  · obtain ⟨u, d, G, B, -, g, m, k⟩ := tq_up (by omega) b
    rw [tq_c0 (fun f _ h2 => n2 f (by omega))] at g
    unfold tq_h at k
    rw [if_pos e1] at k
    unfold tq_Z
    rw [if_pos e]
    rcases u with u | u
    · have d3 : 3 ≤ s'.2.1 := by
        rcases d with d | d | d
        · rw [d] at u; omega
        · omega
        · exact d
      rw [if_neg (by omega)] at k
      rw [if_neg (by omega), if_pos u, if_pos d3]
      exact ⟨Or.inl (by omega), fun _ _ => by omega⟩
    · rw [if_pos u] at k
      rw [if_pos u]
      exact ⟨Or.inl (by omega), fun _ w => absurd u w⟩
  · obtain ⟨u, d, G, B, -, g, m, k⟩ := tq_up (by omega) b
    rw [tq_c0 (fun f _ h2 => n2 f (by omega))] at g
    unfold tq_h at k
    rw [if_pos e1] at k
    unfold tq_Z
    rw [if_neg (show ¬ h = 2 by omega), if_pos e, if_neg (show ¬ 3 ≤ v by omega), if_neg (show ¬ v = 2 by omega), if_neg (show ¬ v = 1 by omega)]
    rcases u with u | u
    · have d3 : 3 ≤ s'.2.1 := by
        rcases d with d | d | d
        · rw [d] at u; omega
        · omega
        · exact d
      rw [if_neg (by omega)] at k
      rw [if_neg (by omega), if_pos u, if_pos d3]
      exact ⟨Or.inl (by omega), fun _ _ => by omega⟩
    · rw [if_pos u] at k
      rw [if_pos u]
      exact ⟨Or.inl (by omega), fun _ w => absurd u w⟩
  · obtain ⟨u, d, G, B, -, g, m, k⟩ := tq_up (by omega) b
    rw [tq_c0 (fun f _ h2 => n2 f (by omega))] at g
    unfold tq_h at k
    rw [if_neg (show ¬ s.1 = 2 by omega)] at k
    have u1 : s'.1 = 1 := by
      rcases u with u | u
      · exact u
      · rw [if_pos u] at k; omega
    rw [if_neg (by omega)] at k
    refine ⟨Or.inr ⟨?_, ns, e⟩, fun w => by omega⟩
    unfold tq_Z
    rw [if_neg (by omega), if_pos u1, if_neg (show ¬ h = 2 by omega), if_pos e]
    rcases d with d | d | d
    · rw [d, e3]
      repeat' split
      all_goals omega
    · omega
    · rw [if_pos d]
      repeat' split
      all_goals omega
