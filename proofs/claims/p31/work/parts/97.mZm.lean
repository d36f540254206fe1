/-! behind a plan all is live -/
theorem LIVE.mv2 {μ ξ μ' ξ' : gM} (h : LIVE μ ξ) (hm : ∀ a, (4 ≤ a ∧ a ≤ 16) ∨ (34 ≤ a ∧ a < 267) → μ' a = μ a) (h9 : ξ' 269 = ξ 269) (h2 : ξ' 272 = ξ 272) (h3 : ξ' 273 = ξ 273) (h4 : ξ' 274 = ξ 274) (h20 : ξ' 267 20 = ξ 267 20) : LIVE μ' ξ' := by
  obtain ⟨g, ⟨cg, r1, r2, r3⟩, p⟩ := h
  refine ⟨g.cp (fun a h1 h2 => hm a (by omega)) h9 (fun j i hj => by rw [hm _ (by unfold INR at hj; omega)]) (fun i _ => by rw [h2]), ⟨cg, by rw [hm 5 (by decide)]; exact r1, r2, ?_⟩, p.fr (fun a ha => hm a (by omega)) h9 h3 h4 h20⟩
  unfold RNG at *
  rw [hm 48 (by decide)]
  exact r3
theorem SR.pl {F : Prop} {c : Int32} {μ ξ μ' ξ' : gM} (h : SR 34 F c μ ξ) (wm : ∀ a, a ≠ 34 → a ≠ 35 → a ≠ 36 → μ' a = μ a) (ws : ∀ i, i ≠ 8 → μ' 34 i = μ 34 i) (wx : ∀ a, a ≠ 272 → ξ' a = ξ a) (wi : ∀ i, i ≠ 8 → i < 145 ∨ 245 ≤ i → ξ' 272 i = ξ 272 i) : SR 34 F c μ' ξ' := by
  obtain ⟨⟨hn, ⟨n0, n1, n2, n3, n4, n5, n6⟩, hw, a1, a2, a3⟩, h2, h3⟩ := h
  refine ⟨⟨hn.fr (fun a h1 h2 => wm a (by omega) (by omega) (by omega)) (wx 269 (by decide)), ⟨by rw [ws 0 (by decide), wi 0 (by decide) (by decide)]; exact n0, by rw [ws 1 (by decide), wi 1 (by decide) (by decide)]; exact n1, by rw [ws 2 (by decide), wi 2 (by decide) (by decide)]; exact n2, by rw [ws 3 (by decide), wi 3 (by decide) (by decide)]; exact n3, by rw [ws 4 (by decide), wi 4 (by decide) (by decide)]; exact n4, by rw [ws 5 (by decide), wi 9 (by decide) (by decide)]; exact n5, by rw [wi 9 (by decide) (by decide)]; exact n6⟩, fun g k m => ?_, by rw [wm (34 + 3) (by decide) (by decide) (by decide)]; exact a1, by rw [wi 7 (by decide) (by decide)]; exact a2, fun f => ?_⟩, fun g hg => (h2 g hg).cg hg (fun a ha => wm a (by omega) (by omega) (by omega)) (wx 269 (by decide)) (fun i hi => wi i (by omega) (by omega)), fun g hg => ?_⟩
  · rw [wx 269 (by decide)] at m
    have hg := m.1
    have hk := m.2.1
    rw [wm (34 + 9) (by decide) (by decide) (by decide), wm (34 + 10) (by decide) (by decide) (by decide), wm (34 + 11) (by decide) (by decide) (by decide), wx 269 (by decide), wi 2 (by decide) (by decide), wi _ (by omega) (by omega)]
    exact hw g k m
  · obtain ⟨f1, f2, f3, f4⟩ := a3 f
    exact ⟨f1.cg (wm _ (by decide) (by decide) (by decide)) (wm _ (by decide) (by decide) (by decide)) (wi 7 (by decide) (by decide)) (fun i hi => wi i (by omega) (by omega)), by rw [ws 6 (by decide), wi 5 (by decide) (by decide)]; exact f2, by rw [ws 7 (by decide), wi 6 (by decide) (by decide)]; exact f3, by rw [wm (34 + 14) (by decide) (by decide) (by decide), wx 267 (by decide)]; exact f4⟩
  · have := h3 g hg
    unfold CN at *
    rw [wm (34 + 6) (by decide) (by decide) (by decide), wm (34 + 7) (by decide) (by decide) (by decide), wi _ (by omega) (by omega), wi _ (by omega) (by omega)]
    exact this
theorem mPl74 {c : Nat} (hc : c ≤ 20) : ∀ (m k : Nat) (ξ : gM), k ≤ 5 * c → 5 * c < k + m → ∃ ξ', fX12_plan_l74 m (nI c) (nI k) ξ = some (nI c, ξ') ∧ (∀ a, a ≠ 272 → ξ' a = ξ a) ∧ (∀ i, k ≤ i → i < 5 * c → ξ' 272 (145 + i) = ξ 271 i) ∧ ∀ i, i < 145 + k ∨ 145 + 5 * c ≤ i → ξ' 272 i = ξ 272 i := by
  intro m
  induction m with
  | zero => intro k ξ h1 h2; exact absurd h2 (by omega)
  | succ m ih =>
    intro k ξ h1 h2
    have e5 : (5 : Int32) * nI c = nI (5 * c) := by rw [show (5 : Int32) = nI 5 from rfl, pk_mul]
    rw [fX12_plan_l74, e5]
    by_cases ck : k = 5 * c
    · rw [if_pos ((nIle (by omega) (by omega)).mpr (by omega))]
      exact ⟨ξ, rfl, fun _ _ => rfl, fun i h1 h2 => absurd h1 (by omega), fun _ _ => rfl⟩
    · rw [if_neg (fun w => ck (by have := (nIle (by omega) (by omega)).mp w; omega)), show (145 : Int32) + nI k = nI (145 + k) from nI_add 145 _]
      unfold zCk
      rw [if_pos (gI (by omega) (by decide)), if_pos (gI (by omega) (by decide)), zLt_eq, zLt_eq, nI_clamp (by omega), nI_clamp (by omega), show nI k + (1 : Int32) = nI (k + 1) from nI_1 k]
      obtain ⟨ξ', e, f1, f2, f3⟩ := ih (k + 1) (gUp ξ 272 (145 + k) (ξ 271 k)) (by omega) (by omega)
      refine ⟨ξ', e, fun a ha => by rw [f1 a ha, zUp_ne _ ha], fun i h1 h2 => ?_, fun i hi => by rw [f3 i (by omega), zUp_slot _ (by omega)]⟩
      by_cases ei : i = k
      · rw [f3 _ (by omega), ei, zUp_same]
      · rw [f2 i (by omega) h2, zUp_ne _ (by decide)]
theorem cFirst {p c : Nat} {t : Int32} {μ : gM} (hc : c ≤ 20) (h0 : μ p 0 = nI c) : ∀ (m k : Nat), k ≤ c → c < k + m → ∃ nx, fX5_firstFrom_l2 p m t (nI k) μ = some (nI nx) ∧ k ≤ nx ∧ nx ≤ c ∧ (∀ i, k ≤ i → i < nx → (μ (p + 1) (5 * i)).toInt < t.toInt) ∧ (nx < c → t.toInt ≤ (μ (p + 1) (5 * nx)).toInt) := by
  intro m
  induction m with
  | zero => intro k h1 h2; exact absurd h2 (by omega)
  | succ m ih =>
    intro k h1 h2
    rw [fX5_firstFrom_l2, h0]
    by_cases ck : k = c
    · rw [if_pos ((nIle (by omega) (by omega)).mpr (by omega))]
      exact ⟨k, rfl, Nat.le_refl _, by omega, fun i h1 h2 => absurd h2 (by omega), fun w => absurd w (by omega)⟩
    · have ea : fX5_at p (nI k) μ = some (μ (p + 1) (5 * k)) := by
        unfold fX5_at zCk
        rw [show nI k * (5 : Int32) = nI (5 * k) by rw [show (5 : Int32) = nI 5 from rfl, pk_mul, Nat.mul_comm], if_pos (gI (by omega) (by decide)), nI_clamp (by omega)]
      rw [if_neg (fun w => ck (by have := (nIle (by omega) (by omega)).mp w; omega)), ea, zBd_some]
      by_cases ct : t ≤ μ (p + 1) (5 * k)
      · rw [if_pos ct]
        exact ⟨k, rfl, Nat.le_refl _, by omega, fun i h1 h2 => absurd h2 (by omega), fun _ => Int32.le_iff_toInt_le.mp ct⟩
      · rw [if_neg ct, zLt_eq, show nI k + (1 : Int32) = nI (k + 1) from nI_1 k]
        obtain ⟨nx, e, n1, n2, n3, n4⟩ := ih (k + 1) (by omega) (by omega)
        refine ⟨nx, e, by omega, n2, fun i h1 h2 => ?_, n4⟩
        by_cases ei : i = k
        · subst ei
          have : ¬ t.toInt ≤ (μ (p + 1) (5 * i)).toInt := fun w => ct (Int32.le_iff_toInt_le.mpr w)
          omega
        · exact n3 i (by omega) h2
