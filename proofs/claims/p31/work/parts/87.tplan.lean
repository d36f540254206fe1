/-! the plan's reader -/
def JP (L : Int32) (M μ : gM) : Prop := J false L M μ ∧ PR μ 32
theorem JL.pr {C μ : gM} (h : JL C μ) (p : PR C 32) : PR μ 32 := by
  unfold PR at *
  rw [h.1 32 (by decide), h.1 (32 + 1) (by decide)]
  exact p
theorem JP.lex {L : Int32} {M μ ν : gM} (h : JP L M μ) (g : JL μ ν) : JP L M ν := ⟨h.1.lex g, g.pr h.2⟩
theorem J.d32 {L : Int32} {M μ ν : gM} (h : J false L M μ) (hne : ∀ a, a ≠ 32 → a ≠ 33 → ν a = μ a) (hc : 0 ≤ (ν 32 0).toInt ∧ (ν 32 0).toInt ≤ 20) : J false L M ν := by
  refine ⟨fun a ha i => ?_, fun q hq hq' hq2 => ?_, ?_, fun a ha => ?_⟩
  · by_cases e : a = 32
    · subst e
      match i with
      | 0 => exact hc
      | i + 1 => exact i32b _
    · by_cases e2 : a = 33
      · subst e2; exact i32b _
      · rw [hne a e e2]; exact h.1 a ha i
  · have e2 : q ≠ 33 := fun e => by subst e; exact absurd hq' (by decide)
    have e3 : q + 1 ≠ 32 := fun e => by
      have : q = 31 := by omega
      subst this
      exact absurd hq' (by decide)
    have e4 : q + 1 ≠ 33 := fun e => hq2 (by omega)
    have := h.2.1 q hq hq' hq2
    unfold PR at *
    rw [hne q hq2 e2, hne (q + 1) e3 e4]
    exact this
  · rw [hne 1 (by decide) (by decide)]; exact h.2.2.1
  · rw [hne a (fun e => (fx0 (a := a) (by omega) (by omega)).2 ha) (fun e => (fx0 (a := a) (by omega) (by omega)).2 ha)]; exact h.2.2.2 a ha
theorem tX5_add {L : Int32} {M μ : gM} {a1 a2 a3 a4 a5 : Int32} (h : J false L M μ) : zH (fX5_add 32 a1 a2 a3 a4 a5 μ) (fun ν => J false L M ν ∧ (PR μ 32 → (a2.toInt = 1 → 0 ≤ a3.toInt ∧ a3.toInt ≤ 5) → PR ν 32)) := by
  unfold fX5_add
  have f : 0 ≤ (μ 32 0).toInt ∧ (μ 32 0).toInt ≤ 20 := h.rd (a := 32) rfl (by decide) 0
  refine zH_ltc (rfl : (μ 32 0).toInt = _) (iL (20) (20) rfl) (fun c => ?_) (fun c => zH_some ⟨h, fun p _ => p⟩)
  refine zH_lt (fun x e => ?_)
  obtain ⟨n, hn⟩ : ∃ n : Nat, (μ 32 0).toInt = n := ⟨(μ 32 0).toInt.toNat, by omega⟩
  have q : x.toInt = (n : Int) * 5 := by rw [e]; exact iM hn (iL (5) (5) rfl) (by omega) (by omega)
  have k0 : x.toNatClampNeg = 5 * n := by have := zCl q (by omega); omega
  have q1 : (x + 1).toInt = (n : Int) * 5 + 1 := iA q (iL (1) (1) rfl) (by omega) (by omega)
  have k1 : (x + 1).toNatClampNeg = 5 * n + 1 := by have := zCl q1 (by omega); omega
  have q2 : (x + 2).toInt = (n : Int) * 5 + 2 := iA q (iL (2) (2) rfl) (by omega) (by omega)
  have k2 : (x + 2).toNatClampNeg = 5 * n + 2 := by have := zCl q2 (by omega); omega
  have q3 : (x + 3).toInt = (n : Int) * 5 + 3 := iA q (iL (3) (3) rfl) (by omega) (by omega)
  have k3 : (x + 3).toNatClampNeg = 5 * n + 3 := by have := zCl q3 (by omega); omega
  have q4 : (x + 4).toInt = (n : Int) * 5 + 4 := iA q (iL (4) (4) rfl) (by omega) (by omega)
  have k4 : (x + 4).toNatClampNeg = 5 * n + 4 := by have := zCl q4 (by omega); omega
  refine zH_ck (zIn q (by omega) (by omega)) ?_
  refine zH_lt (fun μ1 e1 => ?_)
  refine zH_ck (zIn q1 (by omega) (by omega)) ?_
  refine zH_lt (fun μ2 e2 => ?_)
  refine zH_ck (zIn q2 (by omega) (by omega)) ?_
  refine zH_lt (fun μ3 e3 => ?_)
  refine zH_ck (zIn q3 (by omega) (by omega)) ?_
  refine zH_lt (fun μ4 e4 => ?_)
  refine zH_ck (zIn q4 (by omega) (by omega)) ?_
  refine zH_lt (fun μ5 e5 => ?_)
  refine zH_lt (fun μ6 e6 => ?_)
  rw [k0] at e1
  rw [k1] at e2
  rw [k2] at e3
  rw [k3] at e4
  rw [k4] at e5
  have w : ∀ a, a ≠ 33 → μ5 a = μ a := fun a ha => by
    rw [e5, zUp_ne _ ha, e4, zUp_ne _ ha, e3, zUp_ne _ ha, e2, zUp_ne _ ha, e1, zUp_ne _ ha]
  have c6 : (μ6 32 0).toInt = (n : Int) + 1 := by
    rw [e6, zUp_same, w 32 (by decide)]
    exact iA hn (iL (1) (1) rfl) (by omega) (by omega)
  refine zH_some ⟨h.d32 (fun a h1 h2 => by rw [e6, zUp_ne _ h1, w a h2]) (by omega), fun p hz k hk => ?_⟩
  have r6 : μ6 (32 + 1) = μ5 33 := by rw [e6]; exact zUp_ne _ (by decide)
  have s1 : ∀ j, j ≠ 5 * n → j ≠ 5 * n + 1 → j ≠ 5 * n + 2 → j ≠ 5 * n + 3 → j ≠ 5 * n + 4 → μ5 33 j = μ 33 j := fun j h0 h1 h2 h3 h4 => by
    rw [e5, zUp_slot _ h4, e4, zUp_slot _ h3, e3, zUp_slot _ h2, e2, zUp_slot _ h1, e1, zUp_slot _ h0]
  rw [r6]
  rw [c6] at hk
  by_cases ek : k = n
  · subst ek
    have t1 : μ5 33 (5 * k + 1) = a2 := by
      rw [e5, zUp_slot _ (by omega), e4, zUp_slot _ (by omega), e3, zUp_slot _ (by omega), e2]; exact zUp_same _ _ _ _
    have t2 : μ5 33 (5 * k + 2) = a3 := by
      rw [e5, zUp_slot _ (by omega), e4, zUp_slot _ (by omega), e3]; exact zUp_same _ _ _ _
    rw [t1, t2]
    exact hz
  · rw [s1 _ (by omega) (by omega) (by omega) (by omega) (by omega), s1 _ (by omega) (by omega) (by omega) (by omega) (by omega)]
    exact p k (by omega)
theorem tX6_readAt {L : Int32} {M : gM} {a1 : Int32} {a2 : Int32} {μ : gM}  (h : JP L M μ)  : zH (fX6_readAt a1 a2 μ) (fun r => JP L M r.2) := by
  unfold fX6_readAt
  refine zH_lt (fun x_1 e_2 => ?_)
  have q_3 : (14 : Int32).toInt = (14 : Int) := (iL (14) (14) rfl)
  refine zH_bp (tX7_pass h.1.hl h.1.jl) (fun x_4 μ_5 p_6 => ?_)
  have h_7 : JP L M μ_5 := h.lex p_6.1
  have q_8 : x_4.toInt = 0 ∨ x_4.toInt = 1 := p_6.2
  refine zH_eqc (rfl : x_4.toInt = _) (iL (0) (0) rfl) (fun c_9e c_9 => ?_) (fun c_9e c_9 => ?_)
  · exact zH_some h_7
  · refine zH_ltc (rfl : a1.toInt = _) (iL (20) (20) rfl) (fun c_10 => ?_) (fun c_10 => ?_)
    · have q_11 : (9999 : Int32).toInt = (9999 : Int) := (iL (9999) (9999) rfl)
      refine zH_bp (tX7_number h_7.1.hl h_7.1.jl) (fun x_12 μ_13 p_14 => ?_)
      have h_15 : JP L M μ_13 := h_7.lex p_14.1
      have q_16 : x_12.toInt = -1 ∨ (a2.toInt ≤ x_12.toInt ∧ x_12.toInt ≤ (9999 : Int32).toInt) := p_14.2
      exact zH_some h_15
    · have q_17 : (6 : Int32).toInt = (6 : Int) := (iL (6) (6) rfl)
      refine zH_bp (tX7_refuse h_7.1.hl h_7.1.jl) (fun x_18 μ_19 p_20 => ?_)
      have h_21 : JP L M μ_19 := h_7.lex p_20.1
      have q_22 : x_18.toInt = 0 := p_20.2
      exact zH_some h_21
theorem tX6_readWordEvent {L : Int32} {M : gM} {a1 : Int32} {μ : gM}  (h : JP L M μ)  : zH (fX6_readWordEvent a1 μ) (fun r => JP L M r.2 ∧ (r.1.toInt = 0 ∨ r.1.toInt = 1)) := by
  unfold fX6_readWordEvent
  refine zH_bp (tX7_knownMember h.1.hl (Or.inl rfl) h.1.nb4 h.1.jl) (fun x_1 μ_2 p_3 => ?_)
  have h_4 : JP L M μ_2 := h.lex p_3.1
  have q_5 : x_1.toInt = -1 ∨ (0 ≤ x_1.toInt ∧ x_1.toInt ≤ 29) := p_3.2
  refine zH_eqc (rfl : x_1.toInt = _) (iL (-1) (-1) rfl) (fun c_6e c_6 => ?_) (fun c_6e c_6 => ?_)
  · unfold fX6_readWordEvent_n32
    refine zH_eqc (iL (-1) (-1) rfl) (iL (-1) (-1) rfl) (fun c_7e c_7 => ?_) (fun c_7e c_7 => ?_)
    · have q_8 : (0 : Int32).toInt = (0 : Int) := (iL (0) (0) rfl)
      exact zH_some ⟨h_4, show (0 : Int32).toInt = 0 ∨ (0 : Int32).toInt = 1 from by have q_9 : ((0 : Int32)).toInt = (0 : Int) := (iL (0) (0) rfl); omega⟩
    · refine zH_bd (zH_mono (R := fun ν => JP L M ν) (tX5_add h_4.1) (fun _ w => ⟨w.1, w.2 h_4.2 (fun e => absurd e (by decide))⟩)) (fun μ_10 p_11 => ?_)
      have h_12 : JP L M μ_10 := p_11
      have q_13 : (1 : Int32).toInt = (1 : Int) := (iL (1) (1) rfl)
      exact zH_some ⟨h_12, show (1 : Int32).toInt = 0 ∨ (1 : Int32).toInt = 1 from by have q_14 : ((1 : Int32)).toInt = (1 : Int) := (iL (1) (1) rfl); omega⟩
  · have q_15 : (1 : Int32).toInt = (1 : Int) := (iL (1) (1) rfl)
    have q_16 : (255 : Int32).toInt = (255 : Int) := (iL (255) (255) rfl)
    refine zH_bp (tX7_number h_4.1.hl h_4.1.jl) (fun x_17 μ_18 p_19 => ?_)
    have h_20 : JP L M μ_18 := h_4.lex p_19.1
    have q_21 : x_17.toInt = -1 ∨ ((1 : Int32).toInt ≤ x_17.toInt ∧ x_17.toInt ≤ (255 : Int32).toInt) := p_19.2
    unfold fX6_readWordEvent_n32
    refine zH_eqc (rfl : x_17.toInt = _) (iL (-1) (-1) rfl) (fun c_22e c_22 => ?_) (fun c_22e c_22 => ?_)
    · have q_23 : (0 : Int32).toInt = (0 : Int) := (iL (0) (0) rfl)
      exact zH_some ⟨h_20, show (0 : Int32).toInt = 0 ∨ (0 : Int32).toInt = 1 from by have q_24 : ((0 : Int32)).toInt = (0 : Int) := (iL (0) (0) rfl); omega⟩
    · refine zH_bd (zH_mono (R := fun ν => JP L M ν) (tX5_add h_20.1) (fun _ w => ⟨w.1, w.2 h_20.2 (fun e => absurd e (by decide))⟩)) (fun μ_25 p_26 => ?_)
      have h_27 : JP L M μ_25 := p_26
      exact zH_some ⟨h_27, show (1 : Int32).toInt = 0 ∨ (1 : Int32).toInt = 1 from by have q_28 : ((1 : Int32)).toInt = (1 : Int) := (iL (1) (1) rfl); omega⟩
theorem tX6_readGates_l4 {L : Int32} {M : gM}    : ∀ (n : Nat) (y1 : Int32) (y2 : Int32) (μ : gM), JP L M μ → 0 ≤ y2.toInt → y2.toInt ≤ 7 → 7 - y2.toInt < (n : Int) → zH (fX6_readGates_l4  n y1 y2 μ) (fun r => JP L M r.2) := by
  intro n
  induction n with
  | zero =>
    intro y1 y2 μ  h g0 g1 gm
    exact absurd gm (by omega)
  | succ n ih =>
    intro y1 y2 μ  h g0 g1 gm
    rw [fX6_readGates_l4]
    refine zH_ltc (iL (6) (6) rfl) (rfl : y2.toInt = _) (fun c_1 => ?_) (fun c_1 => ?_)
    · exact zH_some h
    · refine zH_eqc (rfl : y2.toInt = _) (iL (0) (0) rfl) (fun c_2e c_2 => ?_) (fun c_2e c_2 => ?_)
      · unfold fX6_readGates_n24
        refine zH_lt (fun x_3 e_4 => ?_)
        have q_5 : (0 : Int32).toInt = (0 : Int) := (iL (0) (0) rfl)
        refine zH_bp (tX7_known h.1.hl (Or.inl rfl) h.1.nb4 h.1.jl) (fun x_6 μ_7 p_8 => ?_)
        have h_9 : JP L M μ_7 := h.lex p_8.1
        have q_10 : x_6.toInt = -1 ∨ (0 ≤ x_6.toInt ∧ x_6.toInt < 8 ∧ ((0 : Int32).toInt = 0 → x_6.toInt < 6) ∧ ((0 : Int32).toInt = 2 → x_6.toInt < 5)) := p_8.2
        refine zH_eqc (rfl : x_6.toInt = _) (iL (-1) (-1) rfl) (fun c_11e c_11 => ?_) (fun c_11e c_11 => ?_)
        · exact zH_some h_9
        · refine zH_eqc (rfl : ((y1 >>> (x_6 &&& 31)) &&& (1 : Int32)).toInt = _) (iL (1) (1) rfl) (fun c_12e c_12 => ?_) (fun c_12e c_12 => ?_)
          · have q_13 : (5 : Int32).toInt = (5 : Int) := (iL (5) (5) rfl)
            refine zH_bp (tX7_refuse h_9.1.hl h_9.1.jl) (fun x_14 μ_15 p_16 => ?_)
            have h_17 : JP L M μ_15 := h_9.lex p_16.1
            have q_18 : x_14.toInt = 0 := p_16.2
            exact zH_some h_17
          · refine zH_lt (fun x_19 e_20 => ?_)
            refine zH_lt (fun x_21 e_22 => ?_)
            have q_23 : x_21.toInt = (y2.toInt + (1 : Int)) := (congrArg Int32.toInt e_22).trans (iA (rfl : y2.toInt = _) (iL (1) (1) rfl) (by omega) (by omega))
            exact ih x_19 x_21 μ_7 h_9 (by omega) (by omega) (by omega)
      · refine zH_bd (tX7_isStop) (fun x_24 p_25 => ?_)
        have q_26 : x_24.toInt = 0 ∨ x_24.toInt = 1 := p_25
        refine zH_eqc (rfl : x_24.toInt = _) (iL (0) (0) rfl) (fun c_27e c_27 => ?_) (fun c_27e c_27 => ?_)
        · unfold fX6_readGates_n24
          refine zH_lt (fun x_28 e_29 => ?_)
          have q_30 : (0 : Int32).toInt = (0 : Int) := (iL (0) (0) rfl)
          refine zH_bp (tX7_known h.1.hl (Or.inl rfl) h.1.nb4 h.1.jl) (fun x_31 μ_32 p_33 => ?_)
          have h_34 : JP L M μ_32 := h.lex p_33.1
          have q_35 : x_31.toInt = -1 ∨ (0 ≤ x_31.toInt ∧ x_31.toInt < 8 ∧ ((0 : Int32).toInt = 0 → x_31.toInt < 6) ∧ ((0 : Int32).toInt = 2 → x_31.toInt < 5)) := p_33.2
          refine zH_eqc (rfl : x_31.toInt = _) (iL (-1) (-1) rfl) (fun c_36e c_36 => ?_) (fun c_36e c_36 => ?_)
          · exact zH_some h_34
          · refine zH_eqc (rfl : ((y1 >>> (x_31 &&& 31)) &&& (1 : Int32)).toInt = _) (iL (1) (1) rfl) (fun c_37e c_37 => ?_) (fun c_37e c_37 => ?_)
            · have q_38 : (5 : Int32).toInt = (5 : Int) := (iL (5) (5) rfl)
              refine zH_bp (tX7_refuse h_34.1.hl h_34.1.jl) (fun x_39 μ_40 p_41 => ?_)
              have h_42 : JP L M μ_40 := h_34.lex p_41.1
              have q_43 : x_39.toInt = 0 := p_41.2
              exact zH_some h_42
            · refine zH_lt (fun x_44 e_45 => ?_)
              refine zH_lt (fun x_46 e_47 => ?_)
              have q_48 : x_46.toInt = (y2.toInt + (1 : Int)) := (congrArg Int32.toInt e_47).trans (iA (rfl : y2.toInt = _) (iL (1) (1) rfl) (by omega) (by omega))
              exact ih x_44 x_46 μ_32 h_34 (by omega) (by omega) (by omega)
        · exact zH_some h
theorem tX6_readGates {L : Int32} {M : gM} {μ : gM}  (h : JP L M μ)  : zH (fX6_readGates μ) (fun r => JP L M r.2) := by
  unfold fX6_readGates
  have q_1 : (0 : Int32).toInt = (0 : Int) := (iL (0) (0) rfl)
  exact zH_mono (tX6_readGates_l4 100000 (0 : Int32) (0 : Int32) μ h (by omega) (by omega) (by omega)) (fun r_3 p_2 => p_2)
def QE (L : Int32) (M : gM) : Int32 × gM → Prop := fun r => J false L M r.2 ∧ (r.1.toInt = 0 ∨ r.1.toInt = 1) ∧ (r.1.toInt ≠ 0 → PR r.2 32)
theorem tX6_readEvent_n129 {L : Int32} {M μ : gM} {y1 y3 z0 : Int32} (h : JP L M μ) (hz : y3.toInt = 1 → z0.toInt = -1 ∨ (0 ≤ z0.toInt ∧ z0.toInt ≤ 5)) : zH (fX6_readEvent_n129 y1 y3 z0 μ) (QE L M) := by
  unfold fX6_readEvent_n129
  refine zH_bd (tX5_add h.1) (fun ν p => ?_)
  refine zH_eqc (rfl : z0.toInt = _) (iL (-1) (-1) rfl) (fun _ c => ?_) (fun _ c => ?_)
  · exact zH_some ⟨p.1, Or.inl rfl, fun w => absurd rfl w⟩
  · exact zH_some ⟨p.1, Or.inr rfl, fun _ => p.2 h.2 (fun e => by have := hz e; omega)⟩
theorem tX6_readEvent_n126 {L : Int32} {M μ : gM} {y1 y3 z0 : Int32} (h : JP L M μ) (hz : y3.toInt = 1 → z0.toInt = 0) : zH (fX6_readEvent_n126 y1 y3 z0 μ) (QE L M) := by
  unfold fX6_readEvent_n126
  refine zH_bp (tX7_known h.1.hl (Or.inl rfl) h.1.nb4 h.1.jl) (fun x ν p => ?_)
  have q : x.toInt = -1 ∨ (0 ≤ x.toInt ∧ x.toInt < 8 ∧ (z0.toInt = 0 → x.toInt < 6) ∧ (z0.toInt = 2 → x.toInt < 5)) := p.2
  exact tX6_readEvent_n129 (h.lex p.1) (fun e => by have := hz e; omega)
theorem tX6_readEvent_n64 {L : Int32} {M μ : gM} {y1 z0 : Int32} (h : JP L M μ) : zH (fX6_readEvent_n64 y1 z0 μ) (QE L M) := by
  unfold fX6_readEvent_n64
  refine zH_eqc (rfl : z0.toInt = _) (iL (6) (6) rfl) (fun _ c => ?_) (fun _ c => ?_)
  · refine zH_bp (tX6_readWordEvent h) (fun x ν p => ?_)
    have q : x.toInt = 0 ∨ x.toInt = 1 := p.2
    refine zH_ck (zBo q) ?_
    exact zH_some ⟨p.1.1, q, fun _ => p.1.2⟩
  · refine zH_eqc (rfl : z0.toInt = _) (iL (5) (5) rfl) (fun _ c => ?_) (fun _ c => ?_)
    · refine zH_bd (tX5_add h.1) (fun ν p => ?_)
      exact zH_some ⟨p.1, Or.inr rfl, fun _ => p.2 h.2 (fun e => absurd e (by decide))⟩
    · refine zH_eqc (rfl : z0.toInt = _) (iL (4) (4) rfl) (fun _ c => ?_) (fun _ c => ?_)
      · refine zH_bp (tX6_readGates h) (fun x ν p => ?_)
        exact tX6_readEvent_n129 p (fun e => by omega)
      · refine zH_ltc (iL (1) (1) rfl) (rfl : z0.toInt = _) (fun c => ?_) (fun c => ?_)
        · exact tX6_readEvent_n126 h (fun e => by omega)
        · exact tX6_readEvent_n126 h (fun e => rfl)
theorem tX6_readEvent_n42 {L : Int32} {M μ : gM} {y1 y2 : Int32} (h : JP L M μ) : zH (fX6_readEvent_n42 y1 y2 μ) (QE L M) := by
  unfold fX6_readEvent_n42
  refine zH_bd (tX7_advance h.1.hl h.1.jl) (fun ν p => ?_)
  exact zH_ite (fun _ => tX6_readEvent_n64 (h.lex p)) (fun _ => tX6_readEvent_n64 (h.lex p))
theorem tX6_readEvent_n26 {L : Int32} {M μ : gM} (h : JP L M μ) : zH (fX6_readEvent_n26 μ) (QE L M) := by
  unfold fX6_readEvent_n26
  refine zH_bp (tX7_refuse h.1.hl h.1.jl) (fun x ν p => ?_)
  have q : x.toInt = 0 := p.2
  refine zH_ck (zBo (Or.inl q)) ?_
  exact zH_some ⟨h.1.lex p.1, Or.inl q, fun w => absurd q w⟩
theorem tX6_readEvent {L : Int32} {M μ : gM} {a1 : Int32} (h : JP L M μ) : zH (fX6_readEvent a1 μ) (QE L M) := by
  unfold fX6_readEvent
  refine zH_bd (tX7_ownWord) (fun x p => ?_)
  refine zH_ite (fun _ => tX6_readEvent_n42 h) (fun _ => ?_)
  refine zH_ite (fun _ => tX6_readEvent_n26 h) (fun _ => ?_)
  exact zH_ite (fun _ => tX6_readEvent_n42 h) (fun _ => tX6_readEvent_n26 h)
theorem tX6_read_l19 {L : Int32} {M : gM} : ∀ (n : Nat) (y1 y2 : Int32) (μ : gM), JP L M μ → 0 ≤ y2.toInt → y2.toInt ≤ 21 → 21 - y2.toInt < (n : Int) → zH (fX6_read_l19 n y1 y2 μ) (QE L M) := by
  intro n
  induction n with
  | zero =>
    intro y1 y2 μ h g0 g1 gm
    exact absurd gm (by omega)
  | succ n ih =>
    intro y1 y2 μ h g0 g1 gm
    rw [fX6_read_l19]
    refine zH_ltc (iL (20) (20) rfl) (rfl : y2.toInt = _) (fun c => zH_some ⟨h.1, Or.inr rfl, fun _ => h.2⟩) (fun c => ?_)
    refine zH_bd (tX7_isEnded) (fun x3 p3 => ?_)
    refine zH_ite (fun _ => ?_) (fun _ => zH_some ⟨h.1, Or.inr rfl, fun _ => h.2⟩)
    refine zH_bp (tX6_readAt h) (fun x4 μ5 p5 => ?_)
    refine zH_ite (fun _ => zH_some ⟨p5.1, Or.inl rfl, fun w => absurd rfl w⟩) (fun _ => ?_)
    refine zH_bp (tX6_readEvent p5) (fun x6 μ7 p7 => ?_)
    refine zH_eqc (rfl : x6.toInt = _) (iL (0) (0) rfl) (fun _ _ => zH_some ⟨p7.1, Or.inl rfl, fun w => absurd rfl w⟩) (fun _ c6 => ?_)
    have h7 : JP L M μ7 := ⟨p7.1, p7.2.2 c6⟩
    refine zH_bp (tX7_passStop h7.1.hl h7.1.jl) (fun x8 μ9 p9 => ?_)
    have h9 := h7.lex p9.1
    refine zH_ite (fun _ => zH_some ⟨h9.1, Or.inl rfl, fun w => absurd rfl w⟩) (fun _ => ?_)
    refine zH_lt (fun x10 e10 => ?_)
    have q : x10.toInt = y2.toInt + 1 := by rw [e10]; exact iA rfl (iL (1) (1) rfl) (by omega) (by omega)
    exact ih x4 x10 μ9 h9 (by omega) (by omega) (by omega)
theorem tX6_read {L : Int32} {M μ : gM} (h : J false L M μ) : zH (fX6_read μ) (QE L M) := by
  unfold fX6_read
  refine zH_lt (fun μ1 e1 => ?_)
  have h1 : J false L M μ1 := by rw [e1]; exact h.pz (a := 32) rfl (fx0 (by decide) (by decide))
  have p1 : PR μ1 32 := by
    intro k hk
    rw [e1, zUp_same] at hk
    exact absurd hk (by show ¬ (k : Int) < 0; omega)
  refine zH_bd (tX7_open h1.hl h1.jl) (fun μ2 p2 => ?_)
  exact tX6_read_l19 100000 (0 : Int32) (0 : Int32) μ2 (JP.lex ⟨h1, p1⟩ p2) (by decide) (by decide) (by decide)
