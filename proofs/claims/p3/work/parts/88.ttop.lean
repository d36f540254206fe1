/-! what changes the tape's length: feed, end, net, plan -/
theorem zH_and {α : Type} {m : Option α} {P Q : α → Prop} (h : zH m P) (g : zH m Q) : zH m (fun a => P a ∧ Q a) := by
  obtain ⟨a, e, p⟩ := h
  obtain ⟨b, e', q⟩ := g
  rw [e] at e'
  cases e'
  exact ⟨a, e, p, q⟩
theorem J.sl {L : Int32} {M μ : gM} (h : J L M μ) {v : Int32} (h0 : 0 ≤ v.toInt) (h1 : v.toInt ≤ 1500) : J v M (gUp μ 1 2 v) := by
  refine ⟨fun a ha i => ?_, fun q hq hq' hq2 => ?_, zUp_same _ _ _ _, fun a ha => ?_⟩
  · rw [zUp_at]
    by_cases e : a = 1
    · subst e
      rw [if_pos rfl]
      by_cases e2 : i = 2
      · subst e2; rw [if_pos rfl]; exact ⟨h0, h1⟩
      · rw [if_neg e2]; exact h.1 1 ha i
    · rw [if_neg e]; exact h.1 a ha i
  · have e1 : q ≠ 1 := fun e => by subst e; exact absurd hq' (by decide)
    have e2 : q + 1 ≠ 1 := fun e => by
      have : q = 0 := by omega
      subst this
      exact absurd hq' (by decide)
    have := h.2.1 q hq hq' hq2
    unfold PR at *
    rw [zUp_ne _ e1, zUp_ne _ e2]
    exact this
  · rw [zUp_ne _ (by omega)]; exact h.2.2.2 a ha
theorem fr5 {p q : Nat} {μ : gM} : zH (fX5_copyFrom p q μ) (fun ν => ∀ a, a ≠ p → a ≠ p + 1 → ν a = μ a) := by
  unfold fX5_copyFrom
  refine zH_lt (fun μ1 e1 => ?_)
  refine zH_lt (fun μ2 e2 => ?_)
  exact zH_some (fun a h1 h2 => by rw [e2, zCp_ne _ h2, e1, zUp_ne _ h1])
theorem fr0 {p q : Nat} {μ : gM} : zH (fX0_copyFrom p q μ) (fun ν => ∀ a, a ≠ p → a ≠ p + 1 → ν a = μ a) := by
  unfold fX0_copyFrom
  refine zH_lt (fun μ1 e1 => ?_)
  refine zH_lt (fun μ2 e2 => ?_)
  refine zH_lt (fun μ3 e3 => ?_)
  exact zH_some (fun a h1 h2 => by rw [e3, zCp_ne _ h2, e2, zUp_ne _ h1, e1, zUp_ne _ h1])
theorem frN {p q : Nat} {μ : gM} : zH (fX9_copyNumbers p q μ) (fun ν => ∀ a, a ≠ p → ν a = μ a) := by
  unfold fX9_copyNumbers
  refine zH_lt (fun μ1 e1 => ?_)
  refine zH_lt (fun μ2 e2 => ?_)
  refine zH_lt (fun μ3 e3 => ?_)
  refine zH_lt (fun μ4 e4 => ?_)
  refine zH_lt (fun μ5 e5 => ?_)
  refine zH_lt (fun μ6 e6 => ?_)
  refine zH_lt (fun μ7 e7 => ?_)
  refine zH_lt (fun μ8 e8 => ?_)
  refine zH_lt (fun μ9 e9 => ?_)
  exact zH_some (fun a h => by rw [e9, zUp_ne _ h, e8, zUp_ne _ h, e7, zUp_ne _ h, e6, zUp_ne _ h, e5, zUp_ne _ h, e4, zUp_ne _ h, e3, zUp_ne _ h, e2, zUp_ne _ h, e1, zUp_ne _ h])
theorem fr9 {p q : Nat} {μ : gM} : zH (fX9_copyFrom p q μ) (fun ν => ∀ a, ¬ (p ≤ a ∧ a ≤ p + 13) → ν a = μ a) := by
  unfold fX9_copyFrom
  refine zH_bd frN (fun μ1 e1 => ?_)
  refine zH_bd fr5 (fun μ2 e2 => ?_)
  refine zH_bd fr0 (fun μ3 e3 => ?_)
  refine zH_lt (fun μ4 e4 => ?_)
  refine zH_lt (fun μ5 e5 => ?_)
  refine zH_lt (fun μ6 e6 => ?_)
  refine zH_lt (fun μ7 e7 => ?_)
  refine zH_lt (fun μ8 e8 => ?_)
  refine zH_lt (fun μ9 e9 => ?_)
  refine zH_lt (fun μ10 e10 => ?_)
  refine zH_lt (fun μ11 e11 => ?_)
  refine zH_lt (fun μ12 e12 => ?_)
  exact zH_some (fun a h => by rw [e12, zCp_ne _ (by omega), e11, zCp_ne _ (by omega), e10, zCp_ne _ (by omega), e9, zCp_ne _ (by omega), e8, zCp_ne _ (by omega), e7, zCp_ne _ (by omega), e6, zCp_ne _ (by omega), e5, zCp_ne _ (by omega), e4, zCp_ne _ (by omega), e3 a (by omega) (by omega), e2 a (by omega) (by omega), e1 a (by omega)])
theorem fr4_n22 {p : Nat} {z : Int32} {μ : gM} : (∃ ν, fX4_save_n22 p z μ = some ν) → zH (fX4_save_n22 p z μ) (fun ν => ∀ a, a < 49 → ν a = μ a) := by
  rintro ⟨ν, hν⟩
  refine ⟨ν, hν, fun a ha => ?_⟩
  unfold fX4_save_n22 at hν
  have h1 := hν
  simp only [zLt] at h1
  unfold zCk at h1
  split at h1
  · obtain ⟨x, hx, h2⟩ := zBd_s h1
    cases h2
    obtain ⟨y, hy, h3⟩ := fr9 (p := 52 + 14 * ((gUp (gUp μ 49 3 z) 49 2 (zMn (gUp μ 49 3 z 49 2 + 1) 12) 49 3).toNatClampNeg)) (q := p) (μ := gUp (gUp μ 49 3 z) 49 2 (zMn (gUp μ 49 3 z 49 2 + 1) 12))
    rw [hx] at hy
    cases hy
    rw [h3 a (by omega), zUp_ne _ (by omega), zUp_ne _ (by omega)]
  · cases h1
theorem fr4 {p : Nat} {μ : gM} (h : ∃ ν, fX4_save p μ = some ν) : zH (fX4_save p μ) (fun ν => ∀ a, a < 49 → ν a = μ a) := by
  unfold fX4_save at *
  by_cases c : (12 : Int32) ≤ μ 49 3 + 1
  · rw [if_pos c] at *; exact fr4_n22 h
  · rw [if_neg c] at *; exact fr4_n22 h
theorem tX1_copyFrom {L : Int32} {M : gM} {μ : gM}  (h : J L M μ)  : zH (fX1_copyFrom 4 18 μ) (fun ν => J L M ν) := by
  unfold fX1_copyFrom
  refine zH_lt (fun μ_1 e_2 => ?_)
  have h_3 : J L M μ_1 := by rw [e_2]; exact J.cp h (a := (4 + 1)) (b := (18 + 1)) (k := (1, 3)) rfl rfl (by decide) (by decide) (by decide) (by decide) (by decide)
  refine zH_lt (fun μ_4 e_5 => ?_)
  have h_6 : J L M μ_4 := by rw [e_5]; exact J.cp h_3 (a := (4 + 2)) (b := (18 + 2)) (k := (1, 24)) rfl rfl (by decide) (by decide) (by decide) (by decide) (by decide)
  refine zH_lt (fun μ_7 e_8 => ?_)
  have h_9 : J L M μ_7 := by rw [e_8]; exact J.cp h_6 (a := (4 + 3)) (b := (18 + 3)) (k := (1, 5)) rfl rfl (by decide) (by decide) (by decide) (by decide) (by decide)
  refine zH_lt (fun μ_10 e_11 => ?_)
  have h_12 : J L M μ_10 := by rw [e_11]; exact J.cp h_9 (a := (4 + 4)) (b := (18 + 4)) (k := (1, 5)) rfl rfl (by decide) (by decide) (by decide) (by decide) (by decide)
  refine zH_lt (fun μ_13 e_14 => ?_)
  have h_15 : J L M μ_13 := by rw [e_14]; exact J.cp h_12 (a := (4 + 5)) (b := (18 + 5)) (k := (1, 5)) rfl rfl (by decide) (by decide) (by decide) (by decide) (by decide)
  refine zH_lt (fun μ_16 e_17 => ?_)
  have h_18 : J L M μ_16 := by rw [e_17]; exact J.cp h_15 (a := (4 + 6)) (b := (18 + 6)) (k := (1, 5)) rfl rfl (by decide) (by decide) (by decide) (by decide) (by decide)
  refine zH_lt (fun μ_19 e_20 => ?_)
  have h_21 : J L M μ_19 := by rw [e_20]; exact J.cp h_18 (a := (4 + 7)) (b := (18 + 7)) (k := (1, 5)) rfl rfl (by decide) (by decide) (by decide) (by decide) (by decide)
  refine zH_lt (fun μ_22 e_23 => ?_)
  have h_24 : J L M μ_22 := by rw [e_23]; exact J.cp h_21 (a := (4 + 8)) (b := (18 + 8)) (k := (1, 30)) rfl rfl (by decide) (by decide) (by decide) (by decide) (by decide)
  refine zH_lt (fun μ_25 e_26 => ?_)
  have h_27 : J L M μ_25 := by rw [e_26]; exact J.cp h_24 (a := (4 + 9)) (b := (18 + 9)) (k := (1, 30)) rfl rfl (by decide) (by decide) (by decide) (by decide) (by decide)
  have f_31 : (0 : Int) ≤ (μ_25 18 10).toInt ∧ (μ_25 18 10).toInt ≤ 24 := h_27.rd (a := 18) rfl (by decide) 10
  refine zH_lt (fun μ_28 e_29 => ?_)
  have h_30 : J L M μ_28 := by rw [e_29]; exact J.up h_27 (a := 4) (k := (0, 1)) rfl (by decide) (by decide) (by decide) (Or.inl (by decide)) (show (0 : Int) ≤ (μ_25 18 10).toInt ∧ (μ_25 18 10).toInt ≤ 24 from by have q_32 : (μ_25 18 10).toInt = (μ_25 18 10).toInt := (rfl : (μ_25 18 10).toInt = _); omega)
  refine zH_lt (fun μ_33 e_34 => ?_)
  have h_35 : J L M μ_33 := by rw [e_34]; exact J.cp h_30 (a := (4 + 10)) (b := (18 + 10)) (k := (1, 24)) rfl rfl (by decide) (by decide) (by decide) (by decide) (by decide)
  refine zH_lt (fun μ_36 e_37 => ?_)
  have h_38 : J L M μ_36 := by rw [e_37]; exact J.cp h_35 (a := (4 + 11)) (b := (18 + 11)) (k := (1, 24)) rfl rfl (by decide) (by decide) (by decide) (by decide) (by decide)
  refine zH_lt (fun μ_39 e_40 => ?_)
  have h_41 : J L M μ_39 := by rw [e_40]; exact J.cp h_38 (a := (4 + 12)) (b := (18 + 12)) (k := (1, 24)) rfl rfl (by decide) (by decide) (by decide) (by decide) (by decide)
  exact zH_some h_41
theorem tX11_net {L : Int32} {M μ : gM} (h : J L M μ) : zH (fX11_net μ) (fun r => J 0 M r.2) := by
  unfold fX11_net
  refine zH_bp (tX2_read h) (fun x1 μ2 p2 => ?_)
  refine zH_lt (fun μ3 e3 => ?_)
  have h3 : J 0 M μ3 := by rw [e3]; exact J.sl p2.1 (by decide) (by decide)
  refine zH_ite (fun _ => zH_some h3) (fun _ => ?_)
  refine zH_bd (tX1_copyFrom h3) (fun μ4 h4 => ?_)
  refine zH_lt (fun μ5 e5 => ?_)
  have h5 : J 0 M μ5 := by rw [e5]; exact J.upf h4 (a := 4) (k := (0, 1)) rfl (by decide) (by decide) (by decide) (Or.inl (by decide)) rfl
  refine zH_bd (tX4_forgetAll h5) (fun μ6 h6 => ?_)
  refine zH_bd (tX10_begin sW_34 h6) (fun μ7 h7 => ?_)
  exact zH_some h7
theorem tX11_plan {L : Int32} {M μ : gM} (h : J L M μ) : zH (fX11_plan μ) (fun r => J 0 M r.2) := by
  unfold fX11_plan
  refine zH_ite (fun _ => ?_) (fun _ => ?_)
  · refine zH_lt (fun μ3 e3 => ?_)
    exact zH_some (show J 0 M μ3 by rw [e3]; exact J.sl h (by decide) (by decide))
  · refine zH_bp (tX6_read h) (fun x1 μ2 p2 => ?_)
    refine zH_lt (fun μ3 e3 => ?_)
    have h3 : J 0 M μ3 := by rw [e3]; exact J.sl p2.1 (by decide) (by decide)
    refine zH_eqc (rfl : x1.toInt = _) (iL (0) (0) rfl) (fun _ _ => zH_some h3) (fun _ c => ?_)
    have hs := tX4_save (p1 := 34) sS_34 h3
    obtain ⟨ν, hν, _⟩ := id hs
    refine zH_bd (zH_and hs (fr4 ⟨ν, hν⟩)) (fun μ4 p4 => ?_)
    obtain ⟨h4, f4⟩ := p4
    have r4 : PR μ4 32 := by
      have := p2.2.2 c
      unfold PR at *
      rw [f4 32 (by decide), f4 (32 + 1) (by decide), e3, zUp_ne _ (by decide), zUp_ne _ (by decide)]
      exact this
    refine zH_bd (tX5_copyFrom (p := 35) (q := 32) h4 rfl (by decide) (by decide) rfl (by decide) r4) (fun μ5 h5 => ?_)
    have f5 : 0 ≤ (μ5 35 0).toInt ∧ (μ5 35 0).toInt ≤ 20 := h5.rd (a := 35) rfl (by decide) 0
    refine zH_bd (tX5_firstFrom f5.2) (fun x6 p6 => ?_)
    refine zH_lt (fun μ7 e7 => ?_)
    have b6 := i32b x6
    exact zH_some (show J 0 M μ7 by rw [e7]; exact J.up h5 (a := 34) (k := (0, 9)) rfl (by decide) (by decide) (by decide) (Or.inl (by decide)) ⟨p6, b6.2⟩)
theorem tX11_end {L : Int32} {M μ : gM} {a1 : Int32} (h : J L M μ) : zH (fX11_end a1 μ) (fun r => ((0 ≤ a1.toInt ∧ a1.toInt ≤ L.toInt) → r.1 = 1 ∧ J a1 M r.2) ∧ (¬ (0 ≤ a1.toInt ∧ a1.toInt ≤ L.toInt) → r.1 = 0 ∧ r.2 = μ)) := by
  have hl := h.len
  unfold fX11_end
  rw [h.2.2.1]
  refine zH_ltc (rfl : a1.toInt = _) (iL (0) (0) rfl) (fun c => zH_some ⟨fun w => absurd w (by omega), fun _ => ⟨rfl, rfl⟩⟩) (fun c => ?_)
  refine zH_lec (rfl : a1.toInt = _) (rfl : L.toInt = _) (fun c2 => ?_) (fun c2 => zH_some ⟨fun w => absurd w (by omega), fun _ => ⟨rfl, rfl⟩⟩)
  refine zH_lt (fun μ1 e1 => ?_)
  exact zH_some ⟨fun _ => ⟨rfl, show J a1 M μ1 by rw [e1]; exact J.sl h c (by omega)⟩, fun w => absurd ⟨c, c2⟩ w⟩
