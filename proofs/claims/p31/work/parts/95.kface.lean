theorem tX12_fault {T : Int32} {C : gM} {a1 : Int32} {μ : gM}  (h : K T C μ)  : zH (fX12_fault a1 μ) (fun r => K T C r.2) := by
  unfold fX12_fault
  refine zH_lt (fun μ_1 e_2 => ?_)
  have h_3 : K T C μ_1 := by rw [e_2]; exact K.u267 h (by decide) (fun e => absurd e (by decide)) (fun e => absurd e (by decide))
  refine zH_eqc (rfl : a1.toInt = _) (iL (0) (0) rfl) (fun c_4e c_4 => ?_) (fun c_4e c_4 => ?_)
  · exact zH_some h_3
  · refine zH_eqc (rfl : a1.toInt = _) (iL (1) (1) rfl) (fun c_5e c_5 => ?_) (fun c_5e c_5 => ?_)
    · exact zH_some h_3
    · exact zH_some h_3
theorem tX12_has {T : Int32} {C : gM} {a1 : Int32} {μ : gM}  (h : K T C μ)  : zH (fX12_has a1 μ) (fun r => K T C r.2) := by
  unfold fX12_has
  refine zH_lt (fun μ_1 e_2 => ?_)
  have h_3 : K T C μ_1 := by rw [e_2]; exact K.u267 h (by decide) (fun e => absurd e (by decide)) (fun e => absurd e (by decide))
  refine zH_eqc (rfl : (μ_1 267 15).toInt = _) (iL (0) (0) rfl) (fun c_4e c_4 => ?_) (fun c_4e c_4 => ?_)
  · exact zH_some h_3
  · refine zH_eqc (rfl : a1.toInt = _) (iL (0) (0) rfl) (fun c_5e c_5 => ?_) (fun c_5e c_5 => ?_)
    · refine zH_bd (tX12_gates h_3) (fun x_6 p_7 => ?_)
      have q_8 : 0 ≤ x_6.toInt ∧ x_6.toInt ≤ 6 := p_7
      exact zH_some h_3
    · refine zH_eqc (rfl : a1.toInt = _) (iL (1) (1) rfl) (fun c_9e c_9 => ?_) (fun c_9e c_9 => ?_)
      · exact zH_some h_3
      · refine zH_eqc (rfl : a1.toInt = _) (iL (2) (2) rfl) (fun c_10e c_10 => ?_) (fun c_10e c_10 => ?_)
        · refine zH_bd (tX12_groups h_3) (fun x_11 p_12 => ?_)
          have q_13 : 0 ≤ x_11.toInt ∧ x_11.toInt ≤ 5 ∧ x_11.toInt = (μ_1 269 2).toInt := p_12
          have f_14 : 0 ≤ (μ_1 269 2).toInt ∧ (μ_1 269 2).toInt ≤ 5 := h_3.2.2.2.1.2.2.1
          exact zH_some h_3
        · refine zH_eqc (rfl : a1.toInt = _) (iL (3) (3) rfl) (fun c_15e c_15 => ?_) (fun c_15e c_15 => ?_)
          · refine zH_bd (tX12_memberMany h_3) (fun x_16 p_17 => ?_)
            exact zH_some h_3
          · refine zH_eqc (rfl : a1.toInt = _) (iL (4) (4) rfl) (fun c_18e c_18 => ?_) (fun c_18e c_18 => ?_)
            · exact zH_some h_3
            · refine zH_eqc (rfl : a1.toInt = _) (iL (5) (5) rfl) (fun c_19e c_19 => ?_) (fun c_19e c_19 => ?_)
              · exact zH_some h_3
              · refine zH_eqc (rfl : a1.toInt = _) (iL (6) (6) rfl) (fun c_20e c_20 => ?_) (fun c_20e c_20 => ?_)
                · exact zH_some h_3
                · refine zH_eqc (rfl : a1.toInt = _) (iL (7) (7) rfl) (fun c_21e c_21 => ?_) (fun c_21e c_21 => ?_)
                  · exact zH_some h_3
                  · refine zH_eqc (rfl : a1.toInt = _) (iL (8) (8) rfl) (fun c_22e c_22 => ?_) (fun c_22e c_22 => ?_)
                    · exact zH_some h_3
                    · refine zH_eqc (rfl : a1.toInt = _) (iL (9) (9) rfl) (fun c_23e c_23 => ?_) (fun c_23e c_23 => ?_)
                      · exact zH_some h_3
                      · refine zH_eqc (rfl : a1.toInt = _) (iL (10) (10) rfl) (fun c_24e c_24 => ?_) (fun c_24e c_24 => ?_)
                        · exact zH_some h_3
                        · refine zH_eqc (rfl : a1.toInt = _) (iL (11) (11) rfl) (fun c_25e c_25 => ?_) (fun c_25e c_25 => ?_)
                          · exact zH_some h_3
                          · refine zH_eqc (rfl : a1.toInt = _) (iL (12) (12) rfl) (fun c_26e c_26 => ?_) (fun c_26e c_26 => ?_)
                            · exact zH_some h_3
                            · refine zH_eqc (rfl : a1.toInt = _) (iL (13) (13) rfl) (fun c_27e c_27 => ?_) (fun c_27e c_27 => ?_)
                              · exact zH_some h_3
                              · refine zH_eqc (rfl : a1.toInt = _) (iL (14) (14) rfl) (fun c_28e c_28 => ?_) (fun c_28e c_28 => ?_)
                                · exact zH_some h_3
                                · refine zH_eqc (rfl : a1.toInt = _) (iL (15) (15) rfl) (fun c_29e c_29 => ?_) (fun c_29e c_29 => ?_)
                                  · exact zH_some h_3
                                  · exact zH_some h_3
theorem tX12_group {T : Int32} {C : gM} {a1 : Int32} {a2 : Int32} {μ : gM}  (h : K T C μ)  : zH (fX12_group a1 a2 μ) (fun r => K T C r.2) := by
  unfold fX12_group
  refine zH_lt (fun μ_1 e_2 => ?_)
  have h_3 : K T C μ_1 := by rw [e_2]; exact K.u267 h (by decide) (fun e => absurd e (by decide)) (fun e => absurd e (by decide))
  refine zH_bd (tX12_isGroup h_3) (fun x_4 p_5 => ?_)
  have q_6 : (x_4.toInt = 0 ∨ x_4.toInt = 1) ∧ (x_4.toInt = 1 → 0 ≤ a1.toInt ∧ a1.toInt ≤ 4 ∧ a1.toInt < (μ_1 269 2).toInt) := p_5
  have f_7 : 0 ≤ (μ_1 269 2).toInt ∧ (μ_1 269 2).toInt ≤ 5 := h_3.2.2.2.1.2.2.1
  refine zH_eqc (rfl : x_4.toInt = _) (iL (0) (0) rfl) (fun c_8e c_8 => ?_) (fun c_8e c_8 => ?_)
  · exact zH_some h_3
  · refine zH_eqc (rfl : a2.toInt = _) (iL (0) (0) rfl) (fun c_9e c_9 => ?_) (fun c_9e c_9 => ?_)
    · refine zH_ck (zIn (iA (iL (28) (28) rfl) (rfl : a1.toInt = _) (by omega) (by omega)) (by omega) (by omega)) ?_
      exact zH_some h_3
    · refine zH_eqc (rfl : a2.toInt = _) (iL (1) (1) rfl) (fun c_10e c_10 => ?_) (fun c_10e c_10 => ?_)
      · refine zH_ck (zIn (iA (iL (33) (33) rfl) (rfl : a1.toInt = _) (by omega) (by omega)) (by omega) (by omega)) ?_
        exact zH_some h_3
      · refine zH_eqc (rfl : a2.toInt = _) (iL (2) (2) rfl) (fun c_11e c_11 => ?_) (fun c_11e c_11 => ?_)
        · refine zH_ck (zIn (iA (iL (38) (38) rfl) (rfl : a1.toInt = _) (by omega) (by omega)) (by omega) (by omega)) ?_
          exact zH_some h_3
        · refine zH_eqc (rfl : a2.toInt = _) (iL (3) (3) rfl) (fun c_12e c_12 => ?_) (fun c_12e c_12 => ?_)
          · refine zH_ck (zIn (iA (iL (43) (43) rfl) (rfl : a1.toInt = _) (by omega) (by omega)) (by omega) (by omega)) ?_
            exact zH_some h_3
          · refine zH_eqc (rfl : a2.toInt = _) (iL (4) (4) rfl) (fun c_13e c_13 => ?_) (fun c_13e c_13 => ?_)
            · refine zH_ck (zIn (iA (iL (48) (48) rfl) (rfl : a1.toInt = _) (by omega) (by omega)) (by omega) (by omega)) ?_
              exact zH_some h_3
            · refine zH_eqc (rfl : a2.toInt = _) (iL (5) (5) rfl) (fun c_14e c_14 => ?_) (fun c_14e c_14 => ?_)
              · refine zH_ck (zIn (iA (iL (130) (130) rfl) (rfl : a1.toInt = _) (by omega) (by omega)) (by omega) (by omega)) ?_
                exact zH_some h_3
              · refine zH_eqc (rfl : a2.toInt = _) (iL (6) (6) rfl) (fun c_15e c_15 => ?_) (fun c_15e c_15 => ?_)
                · refine zH_ck (zIn (iA (iL (135) (135) rfl) (rfl : a1.toInt = _) (by omega) (by omega)) (by omega) (by omega)) ?_
                  exact zH_some h_3
                · refine zH_eqc (rfl : a2.toInt = _) (iL (7) (7) rfl) (fun c_16e c_16 => ?_) (fun c_16e c_16 => ?_)
                  · refine zH_ck (zIn (iA (iL (140) (140) rfl) (rfl : a1.toInt = _) (by omega) (by omega)) (by omega) (by omega)) ?_
                    exact zH_some h_3
                  · refine zH_eqc (rfl : a2.toInt = _) (iL (8) (8) rfl) (fun c_17e c_17 => ?_) (fun c_17e c_17 => ?_)
                    · have q_18 : (2 : Int32).toInt = (2 : Int) := (iL (2) (2) rfl)
                      refine zH_bd (tX12_bitsOf h_3 (by omega) (by omega)) (fun x_19 p_20 => ?_)
                      have q_21 : 0 ≤ x_19.toInt ∧ x_19.toInt ≤ 63 := p_20
                      exact zH_some h_3
                    · exact zH_some h_3
theorem tX12_member {T : Int32} {C : gM} {a1 : Int32} {a2 : Int32} {a3 : Int32} {μ : gM}  (h : K T C μ)  : zH (fX12_member a1 a2 a3 μ) (fun r => K T C r.2) := by
  unfold fX12_member
  refine zH_lt (fun μ_1 e_2 => ?_)
  have h_3 : K T C μ_1 := by rw [e_2]; exact K.u267 h (by decide) (fun e => absurd e (by decide)) (fun e => absurd e (by decide))
  refine zH_bd (tX12_isMember h_3) (fun x_4 p_5 => ?_)
  have q_6 : (x_4.toInt = 0 ∨ x_4.toInt = 1) ∧ (x_4.toInt = 1 → 0 ≤ a1.toInt ∧ a1.toInt ≤ 4 ∧ 0 ≤ a2.toInt ∧ a2.toInt ≤ 5) := p_5
  refine zH_eqc (rfl : x_4.toInt = _) (iL (0) (0) rfl) (fun c_7e c_7 => ?_) (fun c_7e c_7 => ?_)
  · exact zH_some h_3
  · refine zH_bd (tX12_of (by omega) (by omega) (by omega) (by omega)) (fun x_8 p_9 => ?_)
    have q_10 : x_8.toInt = 6 * a1.toInt + a2.toInt := p_9
    refine zH_eqc (rfl : a3.toInt = _) (iL (0) (0) rfl) (fun c_11e c_11 => ?_) (fun c_11e c_11 => ?_)
    · refine zH_ck (zIn (iA (iL (10) (10) rfl) (rfl : x_8.toInt = _) (by omega) (by omega)) (by omega) (by omega)) ?_
      exact zH_some h_3
    · refine zH_eqc (rfl : a3.toInt = _) (iL (1) (1) rfl) (fun c_12e c_12 => ?_) (fun c_12e c_12 => ?_)
      · refine zH_bd (tX12_wordOf h_3 (by omega) (by omega) (by omega) (by omega)) (fun x_13 p_14 => ?_)
        exact zH_some h_3
      · refine zH_eqc (rfl : a3.toInt = _) (iL (2) (2) rfl) (fun c_15e c_15 => ?_) (fun c_15e c_15 => ?_)
        · refine zH_ck (zIn (iA (iL (83) (83) rfl) (rfl : x_8.toInt = _) (by omega) (by omega)) (by omega) (by omega)) ?_
          exact zH_some h_3
        · refine zH_eqc (rfl : a3.toInt = _) (iL (3) (3) rfl) (fun c_16e c_16 => ?_) (fun c_16e c_16 => ?_)
          · refine zH_ck (zIn (iA (iL (40) (40) rfl) (rfl : x_8.toInt = _) (by omega) (by omega)) (by omega) (by omega)) ?_
            exact zH_some h_3
          · refine zH_eqc (rfl : a3.toInt = _) (iL (4) (4) rfl) (fun c_17e c_17 => ?_) (fun c_17e c_17 => ?_)
            · refine zH_ck (zIn (iA (iL (70) (70) rfl) (rfl : x_8.toInt = _) (by omega) (by omega)) (by omega) (by omega)) ?_
              exact zH_some h_3
            · refine zH_eqc (rfl : a3.toInt = _) (iL (5) (5) rfl) (fun c_18e c_18 => ?_) (fun c_18e c_18 => ?_)
              · refine zH_bd (tX12_skewOf h_3 (by omega) (by omega) (by omega) (by omega)) (fun x_19 p_20 => ?_)
                exact zH_some h_3
              · refine zH_eqc (rfl : a3.toInt = _) (iL (6) (6) rfl) (fun c_21e c_21 => ?_) (fun c_21e c_21 => ?_)
                · refine zH_bd (tX12_patienceOf h_3 (by omega) (by omega) (by omega) (by omega)) (fun x_22 p_23 => ?_)
                  exact zH_some h_3
                · refine zH_eqc (rfl : a3.toInt = _) (iL (7) (7) rfl) (fun c_24e c_24 => ?_) (fun c_24e c_24 => ?_)
                  · refine zH_ck (zIn (iA (iL (100) (100) rfl) (rfl : x_8.toInt = _) (by omega) (by omega)) (by omega) (by omega)) ?_
                    exact zH_some h_3
                  · exact zH_some h_3
theorem tX12_track {T : Int32} {C : gM} {a1 : Int32} {a2 : Int32} {μ : gM}  (h : K T C μ)  : zH (fX12_track a1 a2 μ) (fun r => K T C r.2) := by
  unfold fX12_track
  refine zH_lt (fun μ_1 e_2 => ?_)
  have h_3 : K T C μ_1 := by rw [e_2]; exact K.u267 h (by decide) (fun e => absurd e (by decide)) (fun e => absurd e (by decide))
  have f_4 : 0 ≤ (μ_1 269 3).toInt ∧ (μ_1 269 3).toInt ≤ 24 := h_3.2.2.2.1.2.2.2.1
  refine zH_bd (tX12_isIn (i64 (rfl : a1.toInt = _)) (iLL (0) (0) rfl) (i64 (iS (rfl : (μ_1 269 3).toInt = _) (iL (1) (1) rfl) (by omega) (by omega)))) (fun x_5 p_6 => ?_)
  have q_7 : (x_5.toInt = 0 ∨ x_5.toInt = 1) ∧ (x_5.toInt = 1 → (0 : Int) ≤ a1.toInt ∧ a1.toInt ≤ ((μ_1 269 3).toInt - (1 : Int))) ∧ (x_5.toInt = 0 → a1.toInt < (0 : Int) ∨ ((μ_1 269 3).toInt - (1 : Int)) < a1.toInt) := p_6
  refine zH_eqc (rfl : x_5.toInt = _) (iL (0) (0) rfl) (fun c_8e c_8 => ?_) (fun c_8e c_8 => ?_)
  · exact zH_some h_3
  · refine zH_bd (tX12_isIn (i64 (rfl : a2.toInt = _)) (iLL (0) (0) rfl) (iLL (3) (3) rfl)) (fun x_9 p_10 => ?_)
    have q_11 : (x_9.toInt = 0 ∨ x_9.toInt = 1) ∧ (x_9.toInt = 1 → (0 : Int) ≤ a2.toInt ∧ a2.toInt ≤ (3 : Int)) ∧ (x_9.toInt = 0 → a2.toInt < (0 : Int) ∨ (3 : Int) < a2.toInt) := p_10
    refine zH_eqc (rfl : x_9.toInt = _) (iL (0) (0) rfl) (fun c_12e c_12 => ?_) (fun c_12e c_12 => ?_)
    · exact zH_some h_3
    · refine zH_ck (zIn (iA (iA (iL (113) (113) rfl) (iM (iL (4) (4) rfl) (rfl : a1.toInt = _) (by omega) (by omega)) (by omega) (by omega)) (rfl : a2.toInt = _) (by omega) (by omega)) (by omega) (by omega)) ?_
      exact zH_some h_3
theorem tX12_event {T : Int32} {C : gM} {a1 : Int32} {a2 : Int32} {μ : gM}  (h : K T C μ)  : zH (fX12_event a1 a2 μ) (fun r => K T C r.2) := by
  unfold fX12_event
  refine zH_lt (fun μ_1 e_2 => ?_)
  have h_3 : K T C μ_1 := by rw [e_2]; exact K.u267 h (by decide) (fun e => absurd e (by decide)) (fun e => absurd e (by decide))
  have f_4 : 0 ≤ (μ_1 272 8).toInt ∧ (μ_1 272 8).toInt ≤ 20 := h_3.2.2.2.2.2.2.1.2.1
  refine zH_bd (tX12_isIn (i64 (rfl : a1.toInt = _)) (iLL (0) (0) rfl) (i64 (iS (rfl : (μ_1 272 8).toInt = _) (iL (1) (1) rfl) (by omega) (by omega)))) (fun x_5 p_6 => ?_)
  have q_7 : (x_5.toInt = 0 ∨ x_5.toInt = 1) ∧ (x_5.toInt = 1 → (0 : Int) ≤ a1.toInt ∧ a1.toInt ≤ ((μ_1 272 8).toInt - (1 : Int))) ∧ (x_5.toInt = 0 → a1.toInt < (0 : Int) ∨ ((μ_1 272 8).toInt - (1 : Int)) < a1.toInt) := p_6
  refine zH_eqc (rfl : x_5.toInt = _) (iL (0) (0) rfl) (fun c_8e c_8 => ?_) (fun c_8e c_8 => ?_)
  · exact zH_some h_3
  · refine zH_bd (tX12_isIn (i64 (rfl : a2.toInt = _)) (iLL (0) (0) rfl) (iLL (4) (4) rfl)) (fun x_9 p_10 => ?_)
    have q_11 : (x_9.toInt = 0 ∨ x_9.toInt = 1) ∧ (x_9.toInt = 1 → (0 : Int) ≤ a2.toInt ∧ a2.toInt ≤ (4 : Int)) ∧ (x_9.toInt = 0 → a2.toInt < (0 : Int) ∨ (4 : Int) < a2.toInt) := p_10
    refine zH_eqc (rfl : x_9.toInt = _) (iL (0) (0) rfl) (fun c_12e c_12 => ?_) (fun c_12e c_12 => ?_)
    · exact zH_some h_3
    · refine zH_ck (zIn (iA (iA (iL (145) (145) rfl) (iM (iL (5) (5) rfl) (rfl : a1.toInt = _) (by omega) (by omega)) (by omega) (by omega)) (rfl : a2.toInt = _) (by omega) (by omega)) (by omega) (by omega)) ?_
      exact zH_some h_3
theorem tX12_ticks_l47 {T : Int32} {C : gM}    : ∀ (n : Nat) (y1 : Int32) (y2 : Int32) (μ : gM), K T C μ → y1.toInt ≤ 600 → 0 ≤ y2.toInt → y2.toInt ≤ 600 → 600 - y2.toInt < (n : Int) → zH (fX12_ticks_l47  n y1 y2 μ) (fun r => K T C r.2) := by
  intro n
  induction n with
  | zero =>
    intro y1 y2 μ  h g0 g1 g2 gm
    exact absurd gm (by omega)
  | succ n ih =>
    intro y1 y2 μ  h g0 g1 g2 gm
    rw [fX12_ticks_l47]
    refine zH_lec (rfl : y1.toInt = _) (rfl : y2.toInt = _) (fun c_1 => ?_) (fun c_1 => ?_)
    · exact zH_some h
    · refine zH_bd (tX12_tickGoes h) (fun μ_2 p_3 => ?_)
      have h_4 : K T C μ_2 := p_3
      refine zH_lt (fun x_5 e_6 => ?_)
      have q_7 : x_5.toInt = (y2.toInt + (1 : Int)) := (congrArg Int32.toInt e_6).trans (iA (rfl : y2.toInt = _) (iL (1) (1) rfl) (by omega) (by omega))
      exact ih y1 x_5 μ_2 h_4 (by omega) (by omega) (by omega) (by omega)
theorem tX12_ticks {T : Int32} {C : gM} {a1 : Int32} {μ : gM}  (h : K T C μ)  : zH (fX12_ticks a1 μ) (fun r => K T C r.2) := by
  unfold fX12_ticks
  refine zH_lt (fun μ_1 e_2 => ?_)
  have h_3 : K T C μ_1 := by rw [e_2]; exact K.u267 h (by decide) (fun e => absurd e (by decide)) (fun e => absurd e (by decide))
  refine zH_eqc (rfl : (μ_1 267 15).toInt = _) (iL (0) (0) rfl) (fun c_4e c_4 => ?_) (fun c_4e c_4 => ?_)
  · exact zH_some h_3
  · refine zH_bd (tX12_isIn (i64 (rfl : a1.toInt = _)) (iLL (1) (1) rfl) (iLL (500) (500) rfl)) (fun x_5 p_6 => ?_)
    have q_7 : (x_5.toInt = 0 ∨ x_5.toInt = 1) ∧ (x_5.toInt = 1 → (1 : Int) ≤ a1.toInt ∧ a1.toInt ≤ (500 : Int)) ∧ (x_5.toInt = 0 → a1.toInt < (1 : Int) ∨ (500 : Int) < a1.toInt) := p_6
    refine zH_eqc (rfl : x_5.toInt = _) (iL (0) (0) rfl) (fun c_8e c_8 => ?_) (fun c_8e c_8 => ?_)
    · exact zH_some h_3
    · refine zH_lec (rfl : ((μ_1 272 0) + a1).toInt = _) (iL (9999) (9999) rfl) (fun c_9 => ?_) (fun c_9 => ?_)
      · refine zH_bd (tX12_keepsAct h_3) (fun μ_10 p_11 => ?_)
        have h_12 : K T C μ_10 := p_11
        have q_13 : (0 : Int32).toInt = (0 : Int) := (iL (0) (0) rfl)
        exact zH_mono (tX12_ticks_l47 100000 a1 (0 : Int32) μ_10 h_12 (by omega) (by omega) (by omega) (by omega)) (fun r_15 p_14 => p_14)
      · exact zH_some h_3
theorem tX12_up {T : Int32} {C : gM} {a1 : Int32} {μ : gM}  (h : K T C μ)  : zH (fX12_up a1 μ) (fun r => K T C r.2) := by
  unfold fX12_up
  refine zH_lt (fun μ_1 e_2 => ?_)
  have h_3 : K T C μ_1 := by rw [e_2]; exact K.u267 h (by decide) (fun e => absurd e (by decide)) (fun e => absurd e (by decide))
  refine zH_bd (tX12_isGate h_3) (fun x_4 p_5 => ?_)
  have q_6 : (x_4.toInt = 0 ∨ x_4.toInt = 1) ∧ (x_4.toInt = 1 → 0 ≤ a1.toInt ∧ a1.toInt ≤ 5) := p_5
  refine zH_eqc (rfl : x_4.toInt = _) (iL (0) (0) rfl) (fun c_7e c_7 => ?_) (fun c_7e c_7 => ?_)
  · exact zH_some h_3
  · refine zH_bd (tX12_isUp) (fun x_8 p_9 => ?_)
    have q_10 : x_8.toInt = 0 ∨ x_8.toInt = 1 := p_9
    refine zH_eqc (rfl : x_8.toInt = _) (iL (0) (0) rfl) (fun c_11e c_11 => ?_) (fun c_11e c_11 => ?_)
    · refine zH_bd (tX12_keepsAct h_3) (fun μ_12 p_13 => ?_)
      have h_14 : K T C μ_12 := p_13
      refine zH_bd (tX12_comesUp h_14) (fun μ_15 p_16 => ?_)
      have h_17 : K T C μ_15 := p_16
      exact zH_some h_17
    · exact zH_some h_3
theorem tX12_down {T : Int32} {C : gM} {a1 : Int32} {a2 : Int32} {μ : gM}  (h : K T C μ)  : zH (fX12_down a1 a2 μ) (fun r => K T C r.2) := by
  unfold fX12_down
  refine zH_lt (fun μ_1 e_2 => ?_)
  have h_3 : K T C μ_1 := by rw [e_2]; exact K.u267 h (by decide) (fun e => absurd e (by decide)) (fun e => absurd e (by decide))
  refine zH_bd (tX12_isGate h_3) (fun x_4 p_5 => ?_)
  have q_6 : (x_4.toInt = 0 ∨ x_4.toInt = 1) ∧ (x_4.toInt = 1 → 0 ≤ a1.toInt ∧ a1.toInt ≤ 5) := p_5
  refine zH_eqc (rfl : x_4.toInt = _) (iL (0) (0) rfl) (fun c_7e c_7 => ?_) (fun c_7e c_7 => ?_)
  · exact zH_some h_3
  · refine zH_bd (tX12_isUp) (fun x_8 p_9 => ?_)
    have q_10 : x_8.toInt = 0 ∨ x_8.toInt = 1 := p_9
    refine zH_eqc (rfl : x_8.toInt = _) (iL (0) (0) rfl) (fun c_11e c_11 => ?_) (fun c_11e c_11 => ?_)
    · exact zH_some h_3
    · refine zH_bd (tX12_keepsAct h_3) (fun μ_12 p_13 => ?_)
      have h_14 : K T C μ_12 := p_13
      refine zH_bp (tX12_goesDown h_14 (by omega) (by omega)) (fun x_15 μ_16 p_17 => ?_)
      have h_18 : K T C μ_16 := p_17
      exact zH_some h_18
theorem tX12_cut {T : Int32} {C : gM} {a1 : Int32} {a2 : Int32} {μ : gM}  (h : K T C μ)  : zH (fX12_cut a1 a2 μ) (fun r => K T C r.2) := by
  unfold fX12_cut
  refine zH_lt (fun μ_1 e_2 => ?_)
  have h_3 : K T C μ_1 := by rw [e_2]; exact K.u267 h (by decide) (fun e => absurd e (by decide)) (fun e => absurd e (by decide))
  have f_4 : 0 ≤ (μ_1 269 1).toInt ∧ (μ_1 269 1).toInt ≤ 8 := h_3.2.2.2.1.2.1
  refine zH_bd (tX12_isIn (i64 (rfl : a1.toInt = _)) (iLL (0) (0) rfl) (i64 (iS (rfl : (μ_1 269 1).toInt = _) (iL (1) (1) rfl) (by omega) (by omega)))) (fun x_5 p_6 => ?_)
  have q_7 : (x_5.toInt = 0 ∨ x_5.toInt = 1) ∧ (x_5.toInt = 1 → (0 : Int) ≤ a1.toInt ∧ a1.toInt ≤ ((μ_1 269 1).toInt - (1 : Int))) ∧ (x_5.toInt = 0 → a1.toInt < (0 : Int) ∨ ((μ_1 269 1).toInt - (1 : Int)) < a1.toInt) := p_6
  refine zH_eqc (rfl : x_5.toInt = _) (iL (0) (0) rfl) (fun c_8e c_8 => ?_) (fun c_8e c_8 => ?_)
  · exact zH_some h_3
  · refine zH_bd (tX12_isOf) (fun x_9 p_10 => ?_)
    have q_11 : x_9.toInt = 0 ∨ x_9.toInt = 1 := p_10
    refine zH_eqc (rfl : x_9.toInt = _) (rfl : a2.toInt = _) (fun c_12e c_12 => ?_) (fun c_12e c_12 => ?_)
    · exact zH_some h_3
    · refine zH_bd (tX12_keepsAct h_3) (fun μ_13 p_14 => ?_)
      have h_15 : K T C μ_13 := p_14
      refine zH_lt (fun μ_16 e_17 => ?_)
      have h_18 : K T C μ_16 := by rw [e_17]; exact K.uw h_15 (by decide)
      exact zH_some h_18
theorem tX12_split {T : Int32} {C : gM} {a1 : Int32} {μ : gM}  (h : K T C μ)  : zH (fX12_split a1 μ) (fun r => K T C r.2) := by
  unfold fX12_split
  refine zH_lt (fun μ_1 e_2 => ?_)
  have h_3 : K T C μ_1 := by rw [e_2]; exact K.u267 h (by decide) (fun e => absurd e (by decide)) (fun e => absurd e (by decide))
  refine zH_eqc (rfl : (μ_1 267 15).toInt = _) (iL (0) (0) rfl) (fun c_4e c_4 => ?_) (fun c_4e c_4 => ?_)
  · exact zH_some h_3
  · refine zH_bd (tX12_gates h_3) (fun x_5 p_6 => ?_)
    have q_7 : 0 ≤ x_5.toInt ∧ x_5.toInt ≤ 6 := p_6
    refine zH_bd (tX12_isIn (i64 (rfl : a1.toInt = _)) (iLL (0) (0) rfl) (i64 (rfl : (((1 : Int32) <<< (x_5 &&& 31)) - (1 : Int32)).toInt = _))) (fun x_8 p_9 => ?_)
    have q_10 : (x_8.toInt = 0 ∨ x_8.toInt = 1) ∧ (x_8.toInt = 1 → (0 : Int) ≤ a1.toInt ∧ a1.toInt ≤ (((1 : Int32) <<< (x_5 &&& 31)) - (1 : Int32)).toInt) ∧ (x_8.toInt = 0 → a1.toInt < (0 : Int) ∨ (((1 : Int32) <<< (x_5 &&& 31)) - (1 : Int32)).toInt < a1.toInt) := p_9
    refine zH_eqc (rfl : x_8.toInt = _) (iL (0) (0) rfl) (fun c_11e c_11 => ?_) (fun c_11e c_11 => ?_)
    · exact zH_some h_3
    · refine zH_eqc (rfl : (μ_1 272 3).toInt = _) (rfl : a1.toInt = _) (fun c_12e c_12 => ?_) (fun c_12e c_12 => ?_)
      · exact zH_some h_3
      · refine zH_bd (tX12_keepsAct h_3) (fun μ_13 p_14 => ?_)
        have h_15 : K T C μ_13 := p_14
        refine zH_lt (fun μ_16 e_17 => ?_)
        have h_18 : K T C μ_16 := by rw [e_17]; exact K.uw h_15 (by decide)
        exact zH_some h_18
theorem tX12_word {T : Int32} {C : gM} {a1 : Int32} {a2 : Int32} {a3 : Int32} {μ : gM}  (h : K T C μ)  : zH (fX12_word a1 a2 a3 μ) (fun r => K T C r.2) := by
  unfold fX12_word
  refine zH_lt (fun μ_1 e_2 => ?_)
  have h_3 : K T C μ_1 := by rw [e_2]; exact K.u267 h (by decide) (fun e => absurd e (by decide)) (fun e => absurd e (by decide))
  refine zH_bd (tX12_isMember h_3) (fun x_4 p_5 => ?_)
  have q_6 : (x_4.toInt = 0 ∨ x_4.toInt = 1) ∧ (x_4.toInt = 1 → 0 ≤ a1.toInt ∧ a1.toInt ≤ 4 ∧ 0 ≤ a2.toInt ∧ a2.toInt ≤ 5) := p_5
  refine zH_eqc (rfl : x_4.toInt = _) (iL (0) (0) rfl) (fun c_7e c_7 => ?_) (fun c_7e c_7 => ?_)
  · exact zH_some h_3
  · refine zH_bd (tX12_isIn (i64 (rfl : a3.toInt = _)) (iLL (1) (1) rfl) (iLL (255) (255) rfl)) (fun x_8 p_9 => ?_)
    have q_10 : (x_8.toInt = 0 ∨ x_8.toInt = 1) ∧ (x_8.toInt = 1 → (1 : Int) ≤ a3.toInt ∧ a3.toInt ≤ (255 : Int)) ∧ (x_8.toInt = 0 → a3.toInt < (1 : Int) ∨ (255 : Int) < a3.toInt) := p_9
    refine zH_eqc (rfl : x_8.toInt = _) (iL (0) (0) rfl) (fun c_11e c_11 => ?_) (fun c_11e c_11 => ?_)
    · exact zH_some h_3
    · refine zH_bd (tX12_keepsAct h_3) (fun μ_12 p_13 => ?_)
      have h_14 : K T C μ_12 := p_13
      refine zH_bd (tX12_of (by omega) (by omega) (by omega) (by omega)) (fun x_15 p_16 => ?_)
      have q_17 : x_15.toInt = 6 * a1.toInt + a2.toInt := p_16
      refine zH_ck (zIn (iA (iL (10) (10) rfl) (rfl : x_15.toInt = _) (by omega) (by omega)) (by omega) (by omega)) ?_
      refine zH_lt (fun x_18 e_19 => ?_)
      refine zH_bd (tX12_of (by omega) (by omega) (by omega) (by omega)) (fun x_20 p_21 => ?_)
      have q_22 : x_20.toInt = 6 * a1.toInt + a2.toInt := p_21
      refine zH_ck (zIn (iA (iL (10) (10) rfl) (rfl : x_20.toInt = _) (by omega) (by omega)) (by omega) (by omega)) ?_
      refine zH_lt (fun μ_23 e_24 => ?_)
      have h_25 : K T C μ_23 := by rw [e_24]; exact K.uw h_14 (by have q_26 := zCl (iA (iL (10) (10) rfl) (rfl : x_20.toInt = _) (by omega) (by omega)) (by omega); omega)
      exact zH_some h_25
theorem tX12_chance {T : Int32} {C : gM} {a1 : Int32} {a2 : Int32} {μ : gM}  (h : K T C μ)  : zH (fX12_chance a1 a2 μ) (fun r => K T C r.2) := by
  unfold fX12_chance
  refine zH_lt (fun μ_1 e_2 => ?_)
  have h_3 : K T C μ_1 := by rw [e_2]; exact K.u267 h (by decide) (fun e => absurd e (by decide)) (fun e => absurd e (by decide))
  refine zH_eqc (rfl : (μ_1 267 15).toInt = _) (iL (0) (0) rfl) (fun c_4e c_4 => ?_) (fun c_4e c_4 => ?_)
  · exact zH_some h_3
  · refine zH_bd (tX12_isIn (i64 (rfl : a1.toInt = _)) (iLL (0) (0) rfl) (iLL (99) (99) rfl)) (fun x_5 p_6 => ?_)
    have q_7 : (x_5.toInt = 0 ∨ x_5.toInt = 1) ∧ (x_5.toInt = 1 → (0 : Int) ≤ a1.toInt ∧ a1.toInt ≤ (99 : Int)) ∧ (x_5.toInt = 0 → a1.toInt < (0 : Int) ∨ (99 : Int) < a1.toInt) := p_6
    refine zH_eqc (rfl : x_5.toInt = _) (iL (0) (0) rfl) (fun c_8e c_8 => ?_) (fun c_8e c_8 => ?_)
    · exact zH_some h_3
    · refine zH_lec (iL (0) (0) rfl) (rfl : a2.toInt = _) (fun c_9 => ?_) (fun c_9 => ?_)
      · refine zH_bd (tX12_keepsAct h_3) (fun μ_10 p_11 => ?_)
        have h_12 : K T C μ_10 := p_11
        refine zH_lt (fun μ_13 e_14 => ?_)
        have h_15 : K T C μ_13 := by rw [e_14]; exact K.uw h_12 (by decide)
        refine zH_lt (fun μ_16 e_17 => ?_)
        have h_18 : K T C μ_16 := by rw [e_17]; exact K.uw h_15 (by decide)
        exact zH_some h_18
      · exact zH_some h_3
theorem tX12_holder {T : Int32} {C : gM} {a1 : Int32} {a2 : Int32} {μ : gM}  (h : K T C μ)  : zH (fX12_holder a1 a2 μ) (fun r => K T C r.2) := by
  unfold fX12_holder
  refine zH_lt (fun μ_1 e_2 => ?_)
  have h_3 : K T C μ_1 := by rw [e_2]; exact K.u267 h (by decide) (fun e => absurd e (by decide)) (fun e => absurd e (by decide))
  refine zH_bd (tX12_isGroup h_3) (fun x_4 p_5 => ?_)
  have q_6 : (x_4.toInt = 0 ∨ x_4.toInt = 1) ∧ (x_4.toInt = 1 → 0 ≤ a1.toInt ∧ a1.toInt ≤ 4 ∧ a1.toInt < (μ_1 269 2).toInt) := p_5
  have f_7 : 0 ≤ (μ_1 269 2).toInt ∧ (μ_1 269 2).toInt ≤ 5 := h_3.2.2.2.1.2.2.1
  refine zH_eqc (rfl : x_4.toInt = _) (iL (0) (0) rfl) (fun c_8e c_8 => ?_) (fun c_8e c_8 => ?_)
  · exact zH_some h_3
  · refine zH_bd (tX12_isGate h_3) (fun x_9 p_10 => ?_)
    have q_11 : (x_9.toInt = 0 ∨ x_9.toInt = 1) ∧ (x_9.toInt = 1 → 0 ≤ a2.toInt ∧ a2.toInt ≤ 5) := p_10
    refine zH_eqc (rfl : x_9.toInt = _) (iL (0) (0) rfl) (fun c_12e c_12 => ?_) (fun c_12e c_12 => ?_)
    · exact zH_some h_3
    · refine zH_bd (tX12_holderOf h_3 (by omega) (by omega)) (fun x_13 p_14 => ?_)
      have q_15 : (-1 : Int) ≤ x_13.toInt ∧ x_13.toInt ≤ 5 := p_14
      exact zH_some h_3
theorem tX12_doubles_l18 {T : Int32} {C : gM}    : ∀ (n : Nat) (y1 : Int32) (y2 : Int32) (μ : gM), K T C μ → 0 ≤ y2.toInt → y2.toInt ≤ 5 → 5 - y2.toInt < (n : Int) → zH (fX12_doubles_l18  n y1 y2 μ) (fun r => K T C r.2) := by
  intro n
  induction n with
  | zero =>
    intro y1 y2 μ  h g0 g1 gm
    exact absurd gm (by omega)
  | succ n ih =>
    intro y1 y2 μ  h g0 g1 gm
    rw [fX12_doubles_l18]
    refine zH_bd (tX12_groups h) (fun x_1 p_2 => ?_)
    have q_3 : 0 ≤ x_1.toInt ∧ x_1.toInt ≤ 5 ∧ x_1.toInt = (μ 269 2).toInt := p_2
    have f_4 : 0 ≤ (μ 269 2).toInt ∧ (μ 269 2).toInt ≤ 5 := h.2.2.2.1.2.2.1
    refine zH_lec (rfl : x_1.toInt = _) (rfl : y2.toInt = _) (fun c_5 => ?_) (fun c_5 => ?_)
    · exact zH_some h
    · refine zH_bd (tX12_isDouble h (by omega) (by omega)) (fun x_6 p_7 => ?_)
      have q_8 : x_6.toInt = 0 ∨ x_6.toInt = 1 := p_7
      refine zH_bd (tX12_flag) (fun x_9 p_10 => ?_)
      have q_11 : x_9.toInt = 0 ∨ x_9.toInt = 1 := p_10
      refine zH_lt (fun x_12 e_13 => ?_)
      refine zH_lt (fun x_14 e_15 => ?_)
      have q_16 : x_14.toInt = (y2.toInt + (1 : Int)) := (congrArg Int32.toInt e_15).trans (iA (rfl : y2.toInt = _) (iL (1) (1) rfl) (by omega) (by omega))
      exact ih x_12 x_14 μ h (by omega) (by omega) (by omega)
theorem tX12_doubles {T : Int32} {C : gM} {μ : gM}  (h : K T C μ)  : zH (fX12_doubles μ) (fun r => K T C r.2) := by
  unfold fX12_doubles
  refine zH_lt (fun μ_1 e_2 => ?_)
  have h_3 : K T C μ_1 := by rw [e_2]; exact K.u267 h (by decide) (fun e => absurd e (by decide)) (fun e => absurd e (by decide))
  refine zH_eqc (rfl : (μ_1 267 15).toInt = _) (iL (0) (0) rfl) (fun c_4e c_4 => ?_) (fun c_4e c_4 => ?_)
  · exact zH_some h_3
  · have q_5 : (0 : Int32).toInt = (0 : Int) := (iL (0) (0) rfl)
    exact zH_mono (tX12_doubles_l18 100000 (0 : Int32) (0 : Int32) μ_1 h_3 (by omega) (by omega) (by omega)) (fun r_7 p_6 => p_6)
theorem tX12_orphans_l18 {T : Int32} {C : gM}    : ∀ (n : Nat) (y1 : Int32) (y2 : Int32) (μ : gM), K T C μ → 0 ≤ y2.toInt → y2.toInt ≤ 5 → 5 - y2.toInt < (n : Int) → zH (fX12_orphans_l18  n y1 y2 μ) (fun r => K T C r.2) := by
  intro n
  induction n with
  | zero =>
    intro y1 y2 μ  h g0 g1 gm
    exact absurd gm (by omega)
  | succ n ih =>
    intro y1 y2 μ  h g0 g1 gm
    rw [fX12_orphans_l18]
    refine zH_bd (tX12_groups h) (fun x_1 p_2 => ?_)
    have q_3 : 0 ≤ x_1.toInt ∧ x_1.toInt ≤ 5 ∧ x_1.toInt = (μ 269 2).toInt := p_2
    have f_4 : 0 ≤ (μ 269 2).toInt ∧ (μ 269 2).toInt ≤ 5 := h.2.2.2.1.2.2.1
    refine zH_lec (rfl : x_1.toInt = _) (rfl : y2.toInt = _) (fun c_5 => ?_) (fun c_5 => ?_)
    · exact zH_some h
    · refine zH_bd (tX12_isOrphan h (by omega) (by omega)) (fun x_6 p_7 => ?_)
      have q_8 : x_6.toInt = 0 ∨ x_6.toInt = 1 := p_7
      refine zH_bd (tX12_flag) (fun x_9 p_10 => ?_)
      have q_11 : x_9.toInt = 0 ∨ x_9.toInt = 1 := p_10
      refine zH_lt (fun x_12 e_13 => ?_)
      refine zH_lt (fun x_14 e_15 => ?_)
      have q_16 : x_14.toInt = (y2.toInt + (1 : Int)) := (congrArg Int32.toInt e_15).trans (iA (rfl : y2.toInt = _) (iL (1) (1) rfl) (by omega) (by omega))
      exact ih x_12 x_14 μ h (by omega) (by omega) (by omega)
theorem tX12_orphans {T : Int32} {C : gM} {μ : gM}  (h : K T C μ)  : zH (fX12_orphans μ) (fun r => K T C r.2) := by
  unfold fX12_orphans
  refine zH_lt (fun μ_1 e_2 => ?_)
  have h_3 : K T C μ_1 := by rw [e_2]; exact K.u267 h (by decide) (fun e => absurd e (by decide)) (fun e => absurd e (by decide))
  refine zH_eqc (rfl : (μ_1 267 15).toInt = _) (iL (0) (0) rfl) (fun c_4e c_4 => ?_) (fun c_4e c_4 => ?_)
  · exact zH_some h_3
  · have q_5 : (0 : Int32).toInt = (0 : Int) := (iL (0) (0) rfl)
    exact zH_mono (tX12_orphans_l18 100000 (0 : Int32) (0 : Int32) μ_1 h_3 (by omega) (by omega) (by omega)) (fun r_7 p_6 => p_6)
theorem tX12_holds_l19 {T : Int32} {C : gM}    : ∀ (n : Nat) (y1 : Int32) (y2 : Int32) (y3 : Int32) (μ : gM), K T C μ → 0 ≤ y3.toInt → y3.toInt ≤ 5 → 0 ≤ y1.toInt → y1.toInt ≤ 5 → 5 - y3.toInt < (n : Int) → zH (fX12_holds_l19  n y1 y2 y3 μ) (fun r => K T C r.2) := by
  intro n
  induction n with
  | zero =>
    intro y1 y2 y3 μ  h g0 g1 g2 g3 gm
    exact absurd gm (by omega)
  | succ n ih =>
    intro y1 y2 y3 μ  h g0 g1 g2 g3 gm
    rw [fX12_holds_l19]
    refine zH_bd (tX12_groups h) (fun x_1 p_2 => ?_)
    have q_3 : 0 ≤ x_1.toInt ∧ x_1.toInt ≤ 5 ∧ x_1.toInt = (μ 269 2).toInt := p_2
    have f_4 : 0 ≤ (μ 269 2).toInt ∧ (μ 269 2).toInt ≤ 5 := h.2.2.2.1.2.2.1
    refine zH_lec (rfl : x_1.toInt = _) (rfl : y3.toInt = _) (fun c_5 => ?_) (fun c_5 => ?_)
    · exact zH_some h
    · refine zH_bd (tX12_doesHold (by omega) (by omega) (by omega) (by omega)) (fun x_6 p_7 => ?_)
      have q_8 : x_6.toInt = 0 ∨ x_6.toInt = 1 := p_7
      refine zH_bd (tX12_flag) (fun x_9 p_10 => ?_)
      have q_11 : x_9.toInt = 0 ∨ x_9.toInt = 1 := p_10
      refine zH_lt (fun x_12 e_13 => ?_)
      refine zH_lt (fun x_14 e_15 => ?_)
      have q_16 : x_14.toInt = (y3.toInt + (1 : Int)) := (congrArg Int32.toInt e_15).trans (iA (rfl : y3.toInt = _) (iL (1) (1) rfl) (by omega) (by omega))
      exact ih y1 x_12 x_14 μ h (by omega) (by omega) (by omega) (by omega) (by omega)
theorem tX12_holds {T : Int32} {C : gM} {a1 : Int32} {μ : gM}  (h : K T C μ)  : zH (fX12_holds a1 μ) (fun r => K T C r.2) := by
  unfold fX12_holds
  refine zH_lt (fun μ_1 e_2 => ?_)
  have h_3 : K T C μ_1 := by rw [e_2]; exact K.u267 h (by decide) (fun e => absurd e (by decide)) (fun e => absurd e (by decide))
  refine zH_bd (tX12_isGate h_3) (fun x_4 p_5 => ?_)
  have q_6 : (x_4.toInt = 0 ∨ x_4.toInt = 1) ∧ (x_4.toInt = 1 → 0 ≤ a1.toInt ∧ a1.toInt ≤ 5) := p_5
  refine zH_eqc (rfl : x_4.toInt = _) (iL (0) (0) rfl) (fun c_7e c_7 => ?_) (fun c_7e c_7 => ?_)
  · exact zH_some h_3
  · have q_8 : (0 : Int32).toInt = (0 : Int) := (iL (0) (0) rfl)
    exact zH_mono (tX12_holds_l19 100000 a1 (0 : Int32) (0 : Int32) μ_1 h_3 (by omega) (by omega) (by omega) (by omega) (by omega)) (fun r_10 p_9 => p_9)
theorem tX12_slots {T : Int32} {C : gM} {a1 : Int32} {a2 : Int32} {μ : gM}  (h : K T C μ)  : zH (fX12_slots a1 a2 μ) (fun r => K T C r.2) := by
  unfold fX12_slots
  refine zH_lt (fun μ_1 e_2 => ?_)
  have h_3 : K T C μ_1 := by rw [e_2]; exact K.u267 h (by decide) (fun e => absurd e (by decide)) (fun e => absurd e (by decide))
  refine zH_bd (tX12_isGroup h_3) (fun x_4 p_5 => ?_)
  have q_6 : (x_4.toInt = 0 ∨ x_4.toInt = 1) ∧ (x_4.toInt = 1 → 0 ≤ a1.toInt ∧ a1.toInt ≤ 4 ∧ a1.toInt < (μ_1 269 2).toInt) := p_5
  have f_7 : 0 ≤ (μ_1 269 2).toInt ∧ (μ_1 269 2).toInt ≤ 5 := h_3.2.2.2.1.2.2.1
  refine zH_eqc (rfl : x_4.toInt = _) (iL (0) (0) rfl) (fun c_8e c_8 => ?_) (fun c_8e c_8 => ?_)
  · exact zH_some h_3
  · refine zH_bd (tX12_isGate h_3) (fun x_9 p_10 => ?_)
    have q_11 : (x_9.toInt = 0 ∨ x_9.toInt = 1) ∧ (x_9.toInt = 1 → 0 ≤ a2.toInt ∧ a2.toInt ≤ 5) := p_10
    refine zH_eqc (rfl : x_9.toInt = _) (iL (0) (0) rfl) (fun c_12e c_12 => ?_) (fun c_12e c_12 => ?_)
    · exact zH_some h_3
    · refine zH_bd (tX12_laysSlots h_3 (by omega) (by omega)) (fun μ_13 p_14 => ?_)
      have h_15 : K T C μ_13 := p_14.1
      have q_16 : (μ_13 269 2).toInt = (μ_1 269 2).toInt := p_14.2
      have f_17 : 0 ≤ (μ_13 269 2).toInt ∧ (μ_13 269 2).toInt ≤ 5 := h_15.2.2.2.1.2.2.1
      refine zH_ck (zIn (rfl : a2.toInt = _) (by omega) (by omega)) ?_
      exact zH_some h_15
theorem tX12_ahead {T : Int32} {C : gM} {a1 : Int32} {a2 : Int32} {μ : gM}  (h : K T C μ)  : zH (fX12_ahead a1 a2 μ) (fun r => K T C r.2) := by
  unfold fX12_ahead
  refine zH_lt (fun μ_1 e_2 => ?_)
  have h_3 : K T C μ_1 := by rw [e_2]; exact K.u267 h (by decide) (fun e => absurd e (by decide)) (fun e => absurd e (by decide))
  refine zH_bd (tX12_isGroup h_3) (fun x_4 p_5 => ?_)
  have q_6 : (x_4.toInt = 0 ∨ x_4.toInt = 1) ∧ (x_4.toInt = 1 → 0 ≤ a1.toInt ∧ a1.toInt ≤ 4 ∧ a1.toInt < (μ_1 269 2).toInt) := p_5
  have f_7 : 0 ≤ (μ_1 269 2).toInt ∧ (μ_1 269 2).toInt ≤ 5 := h_3.2.2.2.1.2.2.1
  refine zH_eqc (rfl : x_4.toInt = _) (iL (0) (0) rfl) (fun c_8e c_8 => ?_) (fun c_8e c_8 => ?_)
  · exact zH_some h_3
  · refine zH_bd (tX12_isIn (i64 (rfl : a2.toInt = _)) (iLL (0) (0) rfl) (iLL (500) (500) rfl)) (fun x_9 p_10 => ?_)
    have q_11 : (x_9.toInt = 0 ∨ x_9.toInt = 1) ∧ (x_9.toInt = 1 → (0 : Int) ≤ a2.toInt ∧ a2.toInt ≤ (500 : Int)) ∧ (x_9.toInt = 0 → a2.toInt < (0 : Int) ∨ (500 : Int) < a2.toInt) := p_10
    refine zH_eqc (rfl : x_9.toInt = _) (iL (0) (0) rfl) (fun c_12e c_12 => ?_) (fun c_12e c_12 => ?_)
    · exact zH_some h_3
    · refine zH_bd (tX12_canGo) (fun x_13 p_14 => ?_)
      have q_15 : x_13.toInt = 0 ∨ x_13.toInt = 1 := p_14
      refine zH_eqc (rfl : x_13.toInt = _) (iL (0) (0) rfl) (fun c_16e c_16 => ?_) (fun c_16e c_16 => ?_)
      · exact zH_some h_3
      · refine zH_bd (tX12_toPaper h_3) (fun μ_17 p_18 => ?_)
        have h_19 : K T C μ_17 := p_18
        refine zH_bd (tX12_goes h_19 (by omega)) (fun μ_20 p_21 => ?_)
        have h_22 : K T C μ_20 := p_21
        have q_23 : (2 : Int32).toInt = (2 : Int) := (iL (2) (2) rfl)
        refine zH_bd (tX12_bitsOf h_22 (by omega) (by omega)) (fun x_24 p_25 => ?_)
        have q_26 : 0 ≤ x_24.toInt ∧ x_24.toInt ≤ 63 := p_25
        refine zH_bp (tX12_fromPaper h_22) (fun x_27 μ_28 p_29 => ?_)
        have h_30 : K T C μ_28 := p_29
        exact zH_some h_30
theorem tX12_fails {T : Int32} {C : gM} {a1 : Int32} {a2 : Int32} {a3 : Int32} {μ : gM}  (h : K T C μ)  : zH (fX12_fails a1 a2 a3 μ) (fun r => K T C r.2) := by
  unfold fX12_fails
  refine zH_lt (fun μ_1 e_2 => ?_)
  have h_3 : K T C μ_1 := by rw [e_2]; exact K.u267 h (by decide) (fun e => absurd e (by decide)) (fun e => absurd e (by decide))
  refine zH_bd (tX12_isGroup h_3) (fun x_4 p_5 => ?_)
  have q_6 : (x_4.toInt = 0 ∨ x_4.toInt = 1) ∧ (x_4.toInt = 1 → 0 ≤ a1.toInt ∧ a1.toInt ≤ 4 ∧ a1.toInt < (μ_1 269 2).toInt) := p_5
  have f_7 : 0 ≤ (μ_1 269 2).toInt ∧ (μ_1 269 2).toInt ≤ 5 := h_3.2.2.2.1.2.2.1
  refine zH_eqc (rfl : x_4.toInt = _) (iL (0) (0) rfl) (fun c_8e c_8 => ?_) (fun c_8e c_8 => ?_)
  · exact zH_some h_3
  · refine zH_bd (tX12_isGate h_3) (fun x_9 p_10 => ?_)
    have q_11 : (x_9.toInt = 0 ∨ x_9.toInt = 1) ∧ (x_9.toInt = 1 → 0 ≤ a2.toInt ∧ a2.toInt ≤ 5) := p_10
    refine zH_eqc (rfl : x_9.toInt = _) (iL (0) (0) rfl) (fun c_12e c_12 => ?_) (fun c_12e c_12 => ?_)
    · exact zH_some h_3
    · refine zH_bd (tX12_isUp) (fun x_13 p_14 => ?_)
      have q_15 : x_13.toInt = 0 ∨ x_13.toInt = 1 := p_14
      refine zH_eqc (rfl : x_13.toInt = _) (iL (0) (0) rfl) (fun c_16e c_16 => ?_) (fun c_16e c_16 => ?_)
      · exact zH_some h_3
      · refine zH_bd (tX12_isIn (i64 (rfl : a3.toInt = _)) (iLL (0) (0) rfl) (iLL (1) (1) rfl)) (fun x_17 p_18 => ?_)
        have q_19 : (x_17.toInt = 0 ∨ x_17.toInt = 1) ∧ (x_17.toInt = 1 → (0 : Int) ≤ a3.toInt ∧ a3.toInt ≤ (1 : Int)) ∧ (x_17.toInt = 0 → a3.toInt < (0 : Int) ∨ (1 : Int) < a3.toInt) := p_18
        refine zH_eqc (rfl : x_17.toInt = _) (iL (0) (0) rfl) (fun c_20e c_20 => ?_) (fun c_20e c_20 => ?_)
        · exact zH_some h_3
        · refine zH_bp (tX12_failsIn h_3 (by omega) (by omega) (by omega) (by omega)) (fun x_21 μ_22 p_23 => ?_)
          have h_24 : K T C μ_22 := p_23
          refine zH_eqc (rfl : a3.toInt = _) (iL (0) (0) rfl) (fun c_25e c_25 => ?_) (fun c_25e c_25 => ?_)
          · exact zH_some h_24
          · exact zH_some h_24
theorem tX12_worst_l33 {T : Int32} {C : gM}    : ∀ (n : Nat) (y1 : Int32) (y2 : Int32) (y3 : Int32) (y4 : Int32) (y5 : Int32) (μ : gM), K T C μ → 0 ≤ y1.toInt → y1.toInt ≤ 4 → 0 ≤ y5.toInt → y5.toInt ≤ 6 → 6 - y5.toInt < (n : Int) → zH (fX12_worst_l33  n y1 y2 y3 y4 y5 μ) (fun r => K T C r.2) := by
  intro n
  induction n with
  | zero =>
    intro y1 y2 y3 y4 y5 μ  h g0 g1 g2 g3 gm
    exact absurd gm (by omega)
  | succ n ih =>
    intro y1 y2 y3 y4 y5 μ  h g0 g1 g2 g3 gm
    rw [fX12_worst_l33]
    refine zH_bd (tX12_gates h) (fun x_1 p_2 => ?_)
    have q_3 : 0 ≤ x_1.toInt ∧ x_1.toInt ≤ 6 := p_2
    refine zH_lec (rfl : x_1.toInt = _) (rfl : y5.toInt = _) (fun c_4 => ?_) (fun c_4 => ?_)
    · refine zH_eqc (rfl : y2.toInt = _) (iL (0) (0) rfl) (fun c_5e c_5 => ?_) (fun c_5e c_5 => ?_)
      · exact zH_some h
      · exact zH_some h
    · refine zH_bd (tX12_of (by omega) (by omega) (by omega) (by omega)) (fun x_6 p_7 => ?_)
      have q_8 : x_6.toInt = 6 * y1.toInt + y5.toInt := p_7
      refine zH_ck (zIn (iA (iL (40) (40) rfl) (rfl : x_6.toInt = _) (by omega) (by omega)) (by omega) (by omega)) ?_
      refine zH_eqc (rfl : (μ 272 (((40 : Int32) + x_6)).toNatClampNeg).toInt = _) (iL (0) (0) rfl) (fun c_9e c_9 => ?_) (fun c_9e c_9 => ?_)
      · refine zH_lt (fun x_10 e_11 => ?_)
        have q_12 : x_10.toInt = (y5.toInt + (1 : Int)) := (congrArg Int32.toInt e_11).trans (iA (rfl : y5.toInt = _) (iL (1) (1) rfl) (by omega) (by omega))
        exact ih y1 y2 y3 y4 x_10 μ h (by omega) (by omega) (by omega) (by omega) (by omega)
      · refine zH_bp (tX12_failsIn h (by omega) (by omega) (by omega) (by omega)) (fun x_13 μ_14 p_15 => ?_)
        have h_16 : K T C μ_14 := p_15
        refine zH_eqc (rfl : x_13.toInt = _) (iL (-1) (-1) rfl) (fun c_17e c_17 => ?_) (fun c_17e c_17 => ?_)
        · refine zH_eqc (rfl : y2.toInt = _) (iL (0) (0) rfl) (fun c_18e c_18 => ?_) (fun c_18e c_18 => ?_)
          · exact zH_some h_16
          · exact zH_some h_16
        · refine zH_ltc (rfl : y3.toInt = _) (rfl : x_13.toInt = _) (fun c_19 => ?_) (fun c_19 => ?_)
          · refine zH_lt (fun x_20 e_21 => ?_)
            have q_22 : x_20.toInt = (y5.toInt + (1 : Int)) := (congrArg Int32.toInt e_21).trans (iA (rfl : y5.toInt = _) (iL (1) (1) rfl) (by omega) (by omega))
            exact ih y1 y2 x_13 y5 x_20 μ_14 h_16 (by omega) (by omega) (by omega) (by omega) (by omega)
          · refine zH_lt (fun x_23 e_24 => ?_)
            have q_25 : x_23.toInt = (y5.toInt + (1 : Int)) := (congrArg Int32.toInt e_24).trans (iA (rfl : y5.toInt = _) (iL (1) (1) rfl) (by omega) (by omega))
            exact ih y1 y2 y3 y4 x_23 μ_14 h_16 (by omega) (by omega) (by omega) (by omega) (by omega)
theorem tX12_worst {T : Int32} {C : gM} {a1 : Int32} {a2 : Int32} {μ : gM}  (h : K T C μ)  : zH (fX12_worst a1 a2 μ) (fun r => K T C r.2) := by
  unfold fX12_worst
  refine zH_lt (fun μ_1 e_2 => ?_)
  have h_3 : K T C μ_1 := by rw [e_2]; exact K.u267 h (by decide) (fun e => absurd e (by decide)) (fun e => absurd e (by decide))
  refine zH_bd (tX12_isGroup h_3) (fun x_4 p_5 => ?_)
  have q_6 : (x_4.toInt = 0 ∨ x_4.toInt = 1) ∧ (x_4.toInt = 1 → 0 ≤ a1.toInt ∧ a1.toInt ≤ 4 ∧ a1.toInt < (μ_1 269 2).toInt) := p_5
  have f_7 : 0 ≤ (μ_1 269 2).toInt ∧ (μ_1 269 2).toInt ≤ 5 := h_3.2.2.2.1.2.2.1
  refine zH_eqc (rfl : x_4.toInt = _) (iL (0) (0) rfl) (fun c_8e c_8 => ?_) (fun c_8e c_8 => ?_)
  · exact zH_some h_3
  · refine zH_bd (tX12_isIn (i64 (rfl : a2.toInt = _)) (iLL (0) (0) rfl) (iLL (1) (1) rfl)) (fun x_9 p_10 => ?_)
    have q_11 : (x_9.toInt = 0 ∨ x_9.toInt = 1) ∧ (x_9.toInt = 1 → (0 : Int) ≤ a2.toInt ∧ a2.toInt ≤ (1 : Int)) ∧ (x_9.toInt = 0 → a2.toInt < (0 : Int) ∨ (1 : Int) < a2.toInt) := p_10
    refine zH_eqc (rfl : x_9.toInt = _) (iL (0) (0) rfl) (fun c_12e c_12 => ?_) (fun c_12e c_12 => ?_)
    · exact zH_some h_3
    · have q_13 : (-1 : Int32).toInt = (-1 : Int) := (iL (-1) (-1) rfl)
      have q_14 : (0 : Int32).toInt = (0 : Int) := (iL (0) (0) rfl)
      exact zH_mono (tX12_worst_l33 100000 a1 a2 (-1 : Int32) (-1 : Int32) (0 : Int32) μ_1 h_3 (by omega) (by omega) (by omega) (by omega) (by omega)) (fun r_16 p_15 => p_15)
theorem tX12_settles_l32 {T : Int32} {C : gM}    : ∀ (n : Nat) (y1 : Int32) (y2 : Int32) (μ : gM), K T C μ → 0 ≤ y1.toInt → y1.toInt ≤ 500 → 0 ≤ y2.toInt → y2.toInt ≤ y1.toInt + 100 → 700 - y2.toInt < (n : Int) → zH (fX12_settles_l32  n y1 y2 μ) (fun r => K T C r.2) := by
  intro n
  induction n with
  | zero =>
    intro y1 y2 μ  h g0 g1 g2 g3 gm
    exact absurd gm (by omega)
  | succ n ih =>
    intro y1 y2 μ  h g0 g1 g2 g3 gm
    rw [fX12_settles_l32]
    refine zH_lec (iA (rfl : y1.toInt = _) (iL (100) (100) rfl) (by omega) (by omega)) (rfl : y2.toInt = _) (fun c_1 => ?_) (fun c_1 => ?_)
    · refine zH_bp (tX12_fromPaper h) (fun x_2 μ_3 p_4 => ?_)
      have h_5 : K T C μ_3 := p_4
      exact zH_some h_5
    · refine zH_lt (fun x_6 e_7 => ?_)
      refine zH_bd (tX12_tickGoes h) (fun μ_8 p_9 => ?_)
      have h_10 : K T C μ_8 := p_9
      refine zH_lt (fun x_11 e_12 => ?_)
      have q_13 : x_11.toInt = (y2.toInt + (1 : Int)) := (congrArg Int32.toInt e_12).trans (iA (rfl : y2.toInt = _) (iL (1) (1) rfl) (by omega) (by omega))
      refine zH_lec (rfl : (μ_8 267 22).toInt = _) (rfl : x_6.toInt = _) (fun c_14 => ?_) (fun c_14 => ?_)
      · unfold fX12_settles_n62
        refine zH_lec (rfl : y1.toInt = _) (iL (500) (500) rfl) (fun c_15 => ?_) (fun c_15 => ?_)
        · exact ih y1 x_11 μ_8 h_10 (by omega) (by omega) (by omega) (by omega) (by omega)
        · have q_16 : (-1 : Int32).toInt = (-1 : Int) := (iL (-1) (-1) rfl)
          refine zH_bp (tX12_fromPaper h_10) (fun x_17 μ_18 p_19 => ?_)
          have h_20 : K T C μ_18 := p_19
          exact zH_some h_20
      · unfold fX12_settles_n62
        refine zH_lec (rfl : x_11.toInt = _) (iL (500) (500) rfl) (fun c_21 => ?_) (fun c_21 => ?_)
        · exact ih x_11 x_11 μ_8 h_10 (by omega) (by omega) (by omega) (by omega) (by omega)
        · have q_22 : (-1 : Int32).toInt = (-1 : Int) := (iL (-1) (-1) rfl)
          refine zH_bp (tX12_fromPaper h_10) (fun x_23 μ_24 p_25 => ?_)
          have h_26 : K T C μ_24 := p_25
          exact zH_some h_26
theorem tX12_settles {T : Int32} {C : gM} {μ : gM}  (h : K T C μ)  : zH (fX12_settles μ) (fun r => K T C r.2) := by
  unfold fX12_settles
  refine zH_lt (fun μ_1 e_2 => ?_)
  have h_3 : K T C μ_1 := by rw [e_2]; exact K.u267 h (by decide) (fun e => absurd e (by decide)) (fun e => absurd e (by decide))
  refine zH_eqc (rfl : (μ_1 267 15).toInt = _) (iL (0) (0) rfl) (fun c_4e c_4 => ?_) (fun c_4e c_4 => ?_)
  · exact zH_some h_3
  · have q_5 : (600 : Int32).toInt = (600 : Int) := (iL (600) (600) rfl)
    refine zH_bd (tX12_canGo) (fun x_6 p_7 => ?_)
    have q_8 : x_6.toInt = 0 ∨ x_6.toInt = 1 := p_7
    refine zH_eqc (rfl : x_6.toInt = _) (iL (0) (0) rfl) (fun c_9e c_9 => ?_) (fun c_9e c_9 => ?_)
    · exact zH_some h_3
    · refine zH_bd (tX12_toPaper h_3) (fun μ_10 p_11 => ?_)
      have h_12 : K T C μ_10 := p_11
      have q_13 : (0 : Int32).toInt = (0 : Int) := (iL (0) (0) rfl)
      exact zH_mono (tX12_settles_l32 100000 (0 : Int32) (0 : Int32) μ_10 h_12 (by omega) (by omega) (by omega) (by omega) (by omega)) (fun r_15 p_14 => p_14)
theorem tX12_least_l32 {T : Int32} {C : gM}    : ∀ (n : Nat) (y1 : Int32) (y2 : Int32) (y3 : Int32) (μ : gM), K T C μ → 0 ≤ y1.toInt → y1.toInt ≤ 4 → 0 ≤ y2.toInt → y2.toInt ≤ 5 → 0 ≤ y3.toInt → y3.toInt ≤ 255 → 255 - y3.toInt < (n : Int) → zH (fX12_least_l32  n y1 y2 y3 μ) (fun r => K T C r.2) := by
  intro n
  induction n with
  | zero =>
    intro y1 y2 y3 μ  h g0 g1 g2 g3 g4 g5 gm
    exact absurd gm (by omega)
  | succ n ih =>
    intro y1 y2 y3 μ  h g0 g1 g2 g3 g4 g5 gm
    rw [fX12_least_l32]
    refine zH_lec (iL (255) (255) rfl) (rfl : y3.toInt = _) (fun c_1 => ?_) (fun c_1 => ?_)
    · have q_2 : (-1 : Int32).toInt = (-1 : Int) := (iL (-1) (-1) rfl)
      refine zH_bp (tX12_fromPaper h) (fun x_3 μ_4 p_5 => ?_)
      have h_6 : K T C μ_4 := p_5
      exact zH_some h_6
    · have q_7 : (14 : Int32).toInt = (14 : Int) := (iL (14) (14) rfl)
      refine zH_bd (tX12_takesFrom h (by omega) (by omega)) (fun μ_8 p_9 => ?_)
      have h_10 : K T C μ_8 := p_9.1
      have q_11 : (μ_8 267 20).toInt = (μ 267 20).toInt := p_9.2
      have f_12 : 0 ≤ (μ_8 267 20).toInt ∧ (μ_8 267 20).toInt ≤ 12 := h_10.2.2.1.2.2.2
      have f_13 : 0 ≤ (μ 267 20).toInt ∧ (μ 267 20).toInt ≤ 12 := h.2.2.1.2.2.2
      refine zH_bd (tX12_of (by omega) (by omega) (by omega) (by omega)) (fun x_14 p_15 => ?_)
      have q_16 : x_14.toInt = 6 * y1.toInt + y2.toInt := p_15
      refine zH_ck (zIn (iA (iL (10) (10) rfl) (rfl : x_14.toInt = _) (by omega) (by omega)) (by omega) (by omega)) ?_
      refine zH_lt (fun μ_17 e_18 => ?_)
      have h_19 : K T C μ_17 := by rw [e_18]; exact K.uw h_10 (by have q_20 := zCl (iA (iL (10) (10) rfl) (rfl : x_14.toInt = _) (by omega) (by omega)) (by omega); omega)
      have q_21 : (300 : Int32).toInt = (300 : Int) := (iL (300) (300) rfl)
      refine zH_bd (tX12_goes h_19 (by omega)) (fun μ_22 p_23 => ?_)
      have h_24 : K T C μ_22 := p_23
      refine zH_bd (tX12_doesHold (by omega) (by omega) (by omega) (by omega)) (fun x_25 p_26 => ?_)
      have q_27 : x_25.toInt = 0 ∨ x_25.toInt = 1 := p_26
      refine zH_eqc (rfl : x_25.toInt = _) (iL (0) (0) rfl) (fun c_28e c_28 => ?_) (fun c_28e c_28 => ?_)
      · refine zH_lt (fun x_29 e_30 => ?_)
        have q_31 : x_29.toInt = (y3.toInt + (1 : Int)) := (congrArg Int32.toInt e_30).trans (iA (rfl : y3.toInt = _) (iL (1) (1) rfl) (by omega) (by omega))
        exact ih y1 y2 x_29 μ_22 h_24 (by omega) (by omega) (by omega) (by omega) (by omega) (by omega) (by omega)
      · refine zH_bp (tX12_fromPaper h_24) (fun x_32 μ_33 p_34 => ?_)
        have h_35 : K T C μ_33 := p_34
        exact zH_some h_35
theorem tX12_least {T : Int32} {C : gM} {a1 : Int32} {a2 : Int32} {μ : gM}  (h : K T C μ)  : zH (fX12_least a1 a2 μ) (fun r => K T C r.2) := by
  unfold fX12_least
  refine zH_lt (fun μ_1 e_2 => ?_)
  have h_3 : K T C μ_1 := by rw [e_2]; exact K.u267 h (by decide) (fun e => absurd e (by decide)) (fun e => absurd e (by decide))
  refine zH_bd (tX12_isMember h_3) (fun x_4 p_5 => ?_)
  have q_6 : (x_4.toInt = 0 ∨ x_4.toInt = 1) ∧ (x_4.toInt = 1 → 0 ≤ a1.toInt ∧ a1.toInt ≤ 4 ∧ 0 ≤ a2.toInt ∧ a2.toInt ≤ 5) := p_5
  refine zH_eqc (rfl : x_4.toInt = _) (iL (0) (0) rfl) (fun c_7e c_7 => ?_) (fun c_7e c_7 => ?_)
  · exact zH_some h_3
  · have q_8 : (300 : Int32).toInt = (300 : Int) := (iL (300) (300) rfl)
    refine zH_bd (tX12_canGo) (fun x_9 p_10 => ?_)
    have q_11 : x_9.toInt = 0 ∨ x_9.toInt = 1 := p_10
    refine zH_eqc (rfl : x_9.toInt = _) (iL (0) (0) rfl) (fun c_12e c_12 => ?_) (fun c_12e c_12 => ?_)
    · exact zH_some h_3
    · refine zH_bd (tX12_toPaper h_3) (fun μ_13 p_14 => ?_)
      have h_15 : K T C μ_13 := p_14
      have q_16 : (1 : Int32).toInt = (1 : Int) := (iL (1) (1) rfl)
      exact zH_mono (tX12_least_l32 100000 a1 a2 (1 : Int32) μ_13 h_15 (by omega) (by omega) (by omega) (by omega) (by omega) (by omega) (by omega)) (fun r_18 p_17 => p_17)
theorem tX12_flaps {T : Int32} {C : gM} {a1 : Int32} {a2 : Int32} {μ : gM}  (h : K T C μ)  : zH (fX12_flaps a1 a2 μ) (fun r => K T C r.2) := by
  unfold fX12_flaps
  refine zH_lt (fun μ_1 e_2 => ?_)
  have h_3 : K T C μ_1 := by rw [e_2]; exact K.u267 h (by decide) (fun e => absurd e (by decide)) (fun e => absurd e (by decide))
  refine zH_bd (tX12_isGroup h_3) (fun x_4 p_5 => ?_)
  have q_6 : (x_4.toInt = 0 ∨ x_4.toInt = 1) ∧ (x_4.toInt = 1 → 0 ≤ a1.toInt ∧ a1.toInt ≤ 4 ∧ a1.toInt < (μ_1 269 2).toInt) := p_5
  have f_7 : 0 ≤ (μ_1 269 2).toInt ∧ (μ_1 269 2).toInt ≤ 5 := h_3.2.2.2.1.2.2.1
  refine zH_eqc (rfl : x_4.toInt = _) (iL (0) (0) rfl) (fun c_8e c_8 => ?_) (fun c_8e c_8 => ?_)
  · exact zH_some h_3
  · refine zH_bd (tX12_isIn (i64 (rfl : a2.toInt = _)) (iLL (1) (1) rfl) (iLL (500) (500) rfl)) (fun x_9 p_10 => ?_)
    have q_11 : (x_9.toInt = 0 ∨ x_9.toInt = 1) ∧ (x_9.toInt = 1 → (1 : Int) ≤ a2.toInt ∧ a2.toInt ≤ (500 : Int)) ∧ (x_9.toInt = 0 → a2.toInt < (1 : Int) ∨ (500 : Int) < a2.toInt) := p_10
    refine zH_eqc (rfl : x_9.toInt = _) (iL (0) (0) rfl) (fun c_12e c_12 => ?_) (fun c_12e c_12 => ?_)
    · exact zH_some h_3
    · refine zH_bd (tX12_canGo) (fun x_13 p_14 => ?_)
      have q_15 : x_13.toInt = 0 ∨ x_13.toInt = 1 := p_14
      refine zH_eqc (rfl : x_13.toInt = _) (iL (0) (0) rfl) (fun c_16e c_16 => ?_) (fun c_16e c_16 => ?_)
      · exact zH_some h_3
      · refine zH_bd (tX12_toPaper h_3) (fun μ_17 p_18 => ?_)
        have h_19 : K T C μ_17 := p_18
        refine zH_ck (zIn (iA (iL (140) (140) rfl) (rfl : a1.toInt = _) (by omega) (by omega)) (by omega) (by omega)) ?_
        refine zH_lt (fun x_20 e_21 => ?_)
        refine zH_bd (tX12_goes h_19 (by omega)) (fun μ_22 p_23 => ?_)
        have h_24 : K T C μ_22 := p_23
        refine zH_ck (zIn (iA (iL (140) (140) rfl) (rfl : a1.toInt = _) (by omega) (by omega)) (by omega) (by omega)) ?_
        refine zH_bp (tX12_fromPaper h_24) (fun x_25 μ_26 p_27 => ?_)
        have h_28 : K T C μ_26 := p_27
        exact zH_some h_28
theorem tX12_needs_l57 {T : Int32} {C : gM}    : ∀ (n : Nat) (y1 : Int32) (y2 : Int32) (y3 : Int32) (y4 : Int32) (y5 : Int32) (μ : gM), K T C μ → 0 ≤ y1.toInt → y1.toInt ≤ 4 → 0 ≤ y5.toInt → y5.toInt ≤ 8 → 8 - y5.toInt < (n : Int) → zH (fX12_needs_l57  n y1 y2 y3 y4 y5 μ) (fun r => K T C r.2) := by
  intro n
  induction n with
  | zero =>
    intro y1 y2 y3 y4 y5 μ  h g0 g1 g2 g3 gm
    exact absurd gm (by omega)
  | succ n ih =>
    intro y1 y2 y3 y4 y5 μ  h g0 g1 g2 g3 gm
    rw [fX12_needs_l57]
    have f_2 : 0 ≤ (μ 269 1).toInt ∧ (μ 269 1).toInt ≤ 8 := h.2.2.2.1.2.1
    refine zH_lec (rfl : (μ 269 1).toInt = _) (rfl : y5.toInt = _) (fun c_1 => ?_) (fun c_1 => ?_)
    · refine zH_bp (tX12_fromPaper h) (fun x_3 μ_4 p_5 => ?_)
      have h_6 : K T C μ_4 := p_5
      exact zH_some h_6
    · have q_7 : (14 : Int32).toInt = (14 : Int) := (iL (14) (14) rfl)
      refine zH_bd (tX12_takesFrom h (by omega) (by omega)) (fun μ_8 p_9 => ?_)
      have h_10 : K T C μ_8 := p_9.1
      have q_11 : (μ_8 267 20).toInt = (μ 267 20).toInt := p_9.2
      have f_12 : 0 ≤ (μ_8 267 20).toInt ∧ (μ_8 267 20).toInt ≤ 12 := h_10.2.2.1.2.2.2
      have f_13 : 0 ≤ (μ 267 20).toInt ∧ (μ 267 20).toInt ≤ 12 := h.2.2.1.2.2.2
      refine zH_lt (fun μ_14 e_15 => ?_)
      have h_16 : K T C μ_14 := by rw [e_15]; exact K.uw h_10 (by decide)
      have q_17 : (300 : Int32).toInt = (300 : Int) := (iL (300) (300) rfl)
      refine zH_bd (tX12_goes h_16 (by omega)) (fun μ_18 p_19 => ?_)
      have h_20 : K T C μ_18 := p_19
      refine zH_bd (tX12_holderOf h_20 (by omega) (by omega)) (fun x_21 p_22 => ?_)
      have q_23 : (-1 : Int) ≤ x_21.toInt ∧ x_21.toInt ≤ 5 := p_22
      refine zH_eqc (rfl : x_21.toInt = _) (rfl : y3.toInt = _) (fun c_24e c_24 => ?_) (fun c_24e c_24 => ?_)
      · unfold fX12_needs_n111
        have q_25 : (0 : Int32).toInt = (0 : Int) := (iL (0) (0) rfl)
        refine zH_bd (tX12_flag) (fun x_26 p_27 => ?_)
        have q_28 : x_26.toInt = 0 ∨ x_26.toInt = 1 := p_27
        refine zH_lt (fun x_29 e_30 => ?_)
        refine zH_lt (fun x_31 e_32 => ?_)
        have q_33 : x_31.toInt = (y5.toInt + (1 : Int)) := (congrArg Int32.toInt e_32).trans (iA (rfl : y5.toInt = _) (iL (1) (1) rfl) (by omega) (by omega))
        exact ih y1 y2 y3 x_29 x_31 μ_18 h_20 (by omega) (by omega) (by omega) (by omega) (by omega)
      · unfold fX12_needs_n111
        have q_34 : (1 : Int32).toInt = (1 : Int) := (iL (1) (1) rfl)
        refine zH_bd (tX12_flag) (fun x_35 p_36 => ?_)
        have q_37 : x_35.toInt = 0 ∨ x_35.toInt = 1 := p_36
        refine zH_lt (fun x_38 e_39 => ?_)
        refine zH_lt (fun x_40 e_41 => ?_)
        have q_42 : x_40.toInt = (y5.toInt + (1 : Int)) := (congrArg Int32.toInt e_41).trans (iA (rfl : y5.toInt = _) (iL (1) (1) rfl) (by omega) (by omega))
        exact ih y1 y2 y3 x_38 x_40 μ_18 h_20 (by omega) (by omega) (by omega) (by omega) (by omega)
theorem tX12_needs {T : Int32} {C : gM} {a1 : Int32} {a2 : Int32} {μ : gM}  (h : K T C μ)  : zH (fX12_needs a1 a2 μ) (fun r => K T C r.2) := by
  unfold fX12_needs
  refine zH_lt (fun μ_1 e_2 => ?_)
  have h_3 : K T C μ_1 := by rw [e_2]; exact K.u267 h (by decide) (fun e => absurd e (by decide)) (fun e => absurd e (by decide))
  refine zH_bd (tX12_isGroup h_3) (fun x_4 p_5 => ?_)
  have q_6 : (x_4.toInt = 0 ∨ x_4.toInt = 1) ∧ (x_4.toInt = 1 → 0 ≤ a1.toInt ∧ a1.toInt ≤ 4 ∧ a1.toInt < (μ_1 269 2).toInt) := p_5
  have f_7 : 0 ≤ (μ_1 269 2).toInt ∧ (μ_1 269 2).toInt ≤ 5 := h_3.2.2.2.1.2.2.1
  refine zH_eqc (rfl : x_4.toInt = _) (iL (0) (0) rfl) (fun c_8e c_8 => ?_) (fun c_8e c_8 => ?_)
  · exact zH_some h_3
  · refine zH_bd (tX12_isGate h_3) (fun x_9 p_10 => ?_)
    have q_11 : (x_9.toInt = 0 ∨ x_9.toInt = 1) ∧ (x_9.toInt = 1 → 0 ≤ a2.toInt ∧ a2.toInt ≤ 5) := p_10
    refine zH_eqc (rfl : x_9.toInt = _) (iL (0) (0) rfl) (fun c_12e c_12 => ?_) (fun c_12e c_12 => ?_)
    · exact zH_some h_3
    · have q_13 : (300 : Int32).toInt = (300 : Int) := (iL (300) (300) rfl)
      refine zH_bd (tX12_canGo) (fun x_14 p_15 => ?_)
      have q_16 : x_14.toInt = 0 ∨ x_14.toInt = 1 := p_15
      refine zH_eqc (rfl : x_14.toInt = _) (iL (0) (0) rfl) (fun c_17e c_17 => ?_) (fun c_17e c_17 => ?_)
      · exact zH_some h_3
      · refine zH_bd (tX12_toPaper h_3) (fun μ_18 p_19 => ?_)
        have h_20 : K T C μ_18 := p_19
        refine zH_bd (tX12_goes h_20 (by omega)) (fun μ_21 p_22 => ?_)
        have h_23 : K T C μ_21 := p_22
        refine zH_bd (tX12_holderOf h_23 (by omega) (by omega)) (fun x_24 p_25 => ?_)
        have q_26 : (-1 : Int) ≤ x_24.toInt ∧ x_24.toInt ≤ 5 := p_25
        have q_27 : (0 : Int32).toInt = (0 : Int) := (iL (0) (0) rfl)
        exact zH_mono (tX12_needs_l57 100000 a1 a2 x_24 (0 : Int32) (0 : Int32) μ_21 h_23 (by omega) (by omega) (by omega) (by omega) (by omega)) (fun r_29 p_28 => p_28)
theorem tX12_letters {T : Int32} {C : gM} {a1 : Int32} {μ : gM}  (h : K T C μ)  : zH (fX12_letters a1 μ) (fun r => K T C r.2) := by
  unfold fX12_letters
  refine zH_lt (fun μ_1 e_2 => ?_)
  have h_3 : K T C μ_1 := by rw [e_2]; exact K.u267 h (by decide) (fun e => absurd e (by decide)) (fun e => absurd e (by decide))
  refine zH_eqc (rfl : (μ_1 267 15).toInt = _) (iL (0) (0) rfl) (fun c_4e c_4 => ?_) (fun c_4e c_4 => ?_)
  · exact zH_some h_3
  · refine zH_bd (tX12_isIn (i64 (rfl : a1.toInt = _)) (iLL (1) (1) rfl) (iLL (500) (500) rfl)) (fun x_5 p_6 => ?_)
    have q_7 : (x_5.toInt = 0 ∨ x_5.toInt = 1) ∧ (x_5.toInt = 1 → (1 : Int) ≤ a1.toInt ∧ a1.toInt ≤ (500 : Int)) ∧ (x_5.toInt = 0 → a1.toInt < (1 : Int) ∨ (500 : Int) < a1.toInt) := p_6
    refine zH_eqc (rfl : x_5.toInt = _) (iL (0) (0) rfl) (fun c_8e c_8 => ?_) (fun c_8e c_8 => ?_)
    · exact zH_some h_3
    · refine zH_bd (tX12_canGo) (fun x_9 p_10 => ?_)
      have q_11 : x_9.toInt = 0 ∨ x_9.toInt = 1 := p_10
      refine zH_eqc (rfl : x_9.toInt = _) (iL (0) (0) rfl) (fun c_12e c_12 => ?_) (fun c_12e c_12 => ?_)
      · exact zH_some h_3
      · refine zH_bd (tX12_toPaper h_3) (fun μ_13 p_14 => ?_)
        have h_15 : K T C μ_13 := p_14
        refine zH_lt (fun x_16 e_17 => ?_)
        refine zH_bd (tX12_goes h_15 (by omega)) (fun μ_18 p_19 => ?_)
        have h_20 : K T C μ_18 := p_19
        refine zH_bp (tX12_fromPaper h_20) (fun x_21 μ_22 p_23 => ?_)
        have h_24 : K T C μ_22 := p_23
        exact zH_some h_24
theorem tX12_stands_l46 {T : Int32} {C : gM}    : ∀ (n : Nat) (y1 : Int32) (y2 : Int32) (y3 : Int32) (y4 : Int32) (y5 : Int32) (μ : gM), K T C μ → 0 ≤ y1.toInt → y1.toInt ≤ 4 → 0 ≤ y2.toInt → y2.toInt ≤ 5 → y3.toInt ≤ 600 → 0 ≤ y5.toInt → y5.toInt ≤ 600 → 600 - y5.toInt < (n : Int) → zH (fX12_stands_l46  n y1 y2 y3 y4 y5 μ) (fun r => K T C r.2) := by
  intro n
  induction n with
  | zero =>
    intro y1 y2 y3 y4 y5 μ  h g0 g1 g2 g3 g4 g5 g6 gm
    exact absurd gm (by omega)
  | succ n ih =>
    intro y1 y2 y3 y4 y5 μ  h g0 g1 g2 g3 g4 g5 g6 gm
    rw [fX12_stands_l46]
    refine zH_lec (rfl : y3.toInt = _) (rfl : y5.toInt = _) (fun c_1 => ?_) (fun c_1 => ?_)
    · refine zH_bp (tX12_fromPaper h) (fun x_2 μ_3 p_4 => ?_)
      have h_5 : K T C μ_3 := p_4
      exact zH_some h_5
    · refine zH_bd (tX12_tickGoes h) (fun μ_6 p_7 => ?_)
      have h_8 : K T C μ_6 := p_7
      refine zH_bd (tX12_doesHold (by omega) (by omega) (by omega) (by omega)) (fun x_9 p_10 => ?_)
      have q_11 : x_9.toInt = 0 ∨ x_9.toInt = 1 := p_10
      refine zH_bd (tX12_flag) (fun x_12 p_13 => ?_)
      have q_14 : x_12.toInt = 0 ∨ x_12.toInt = 1 := p_13
      refine zH_lt (fun x_15 e_16 => ?_)
      refine zH_lt (fun x_17 e_18 => ?_)
      have q_19 : x_17.toInt = (y5.toInt + (1 : Int)) := (congrArg Int32.toInt e_18).trans (iA (rfl : y5.toInt = _) (iL (1) (1) rfl) (by omega) (by omega))
      exact ih y1 y2 y3 x_15 x_17 μ_6 h_8 (by omega) (by omega) (by omega) (by omega) (by omega) (by omega) (by omega) (by omega)
theorem tX12_stands {T : Int32} {C : gM} {a1 : Int32} {a2 : Int32} {a3 : Int32} {μ : gM}  (h : K T C μ)  : zH (fX12_stands a1 a2 a3 μ) (fun r => K T C r.2) := by
  unfold fX12_stands
  refine zH_lt (fun μ_1 e_2 => ?_)
  have h_3 : K T C μ_1 := by rw [e_2]; exact K.u267 h (by decide) (fun e => absurd e (by decide)) (fun e => absurd e (by decide))
  refine zH_bd (tX12_isMember h_3) (fun x_4 p_5 => ?_)
  have q_6 : (x_4.toInt = 0 ∨ x_4.toInt = 1) ∧ (x_4.toInt = 1 → 0 ≤ a1.toInt ∧ a1.toInt ≤ 4 ∧ 0 ≤ a2.toInt ∧ a2.toInt ≤ 5) := p_5
  refine zH_eqc (rfl : x_4.toInt = _) (iL (0) (0) rfl) (fun c_7e c_7 => ?_) (fun c_7e c_7 => ?_)
  · exact zH_some h_3
  · refine zH_bd (tX12_isIn (i64 (rfl : a3.toInt = _)) (iLL (1) (1) rfl) (iLL (500) (500) rfl)) (fun x_8 p_9 => ?_)
    have q_10 : (x_8.toInt = 0 ∨ x_8.toInt = 1) ∧ (x_8.toInt = 1 → (1 : Int) ≤ a3.toInt ∧ a3.toInt ≤ (500 : Int)) ∧ (x_8.toInt = 0 → a3.toInt < (1 : Int) ∨ (500 : Int) < a3.toInt) := p_9
    refine zH_eqc (rfl : x_8.toInt = _) (iL (0) (0) rfl) (fun c_11e c_11 => ?_) (fun c_11e c_11 => ?_)
    · exact zH_some h_3
    · refine zH_bd (tX12_canGo) (fun x_12 p_13 => ?_)
      have q_14 : x_12.toInt = 0 ∨ x_12.toInt = 1 := p_13
      refine zH_eqc (rfl : x_12.toInt = _) (iL (0) (0) rfl) (fun c_15e c_15 => ?_) (fun c_15e c_15 => ?_)
      · exact zH_some h_3
      · refine zH_bd (tX12_toPaper h_3) (fun μ_16 p_17 => ?_)
        have h_18 : K T C μ_16 := p_17
        have q_19 : (0 : Int32).toInt = (0 : Int) := (iL (0) (0) rfl)
        exact zH_mono (tX12_stands_l46 100000 a1 a2 a3 (0 : Int32) (0 : Int32) μ_16 h_18 (by omega) (by omega) (by omega) (by omega) (by omega) (by omega) (by omega) (by omega)) (fun r_21 p_20 => p_20)
theorem tX12_returns_l35 {T : Int32} {C : gM}    : ∀ (n : Nat) (y1 : Int32) (y2 : Int32) (y3 : Int32) (μ : gM), K T C μ → 0 ≤ y1.toInt → y1.toInt ≤ 4 → 0 ≤ y2.toInt → y2.toInt ≤ 5 → 0 ≤ y3.toInt → y3.toInt ≤ 500 → 500 - y3.toInt < (n : Int) → zH (fX12_returns_l35  n y1 y2 y3 μ) (fun r => K T C r.2) := by
  intro n
  induction n with
  | zero =>
    intro y1 y2 y3 μ  h g0 g1 g2 g3 g4 g5 gm
    exact absurd gm (by omega)
  | succ n ih =>
    intro y1 y2 y3 μ  h g0 g1 g2 g3 g4 g5 gm
    rw [fX12_returns_l35]
    refine zH_bd (tX12_doesHold (by omega) (by omega) (by omega) (by omega)) (fun x_1 p_2 => ?_)
    have q_3 : x_1.toInt = 0 ∨ x_1.toInt = 1 := p_2
    refine zH_eqc (rfl : x_1.toInt = _) (iL (0) (0) rfl) (fun c_4e c_4 => ?_) (fun c_4e c_4 => ?_)
    · refine zH_lec (iL (500) (500) rfl) (rfl : y3.toInt = _) (fun c_5 => ?_) (fun c_5 => ?_)
      · unfold fX12_returns_n69
        refine zH_bd (tX12_doesHold (by omega) (by omega) (by omega) (by omega)) (fun x_6 p_7 => ?_)
        have q_8 : x_6.toInt = 0 ∨ x_6.toInt = 1 := p_7
        refine zH_eqc (rfl : x_6.toInt = _) (iL (0) (0) rfl) (fun c_9e c_9 => ?_) (fun c_9e c_9 => ?_)
        · unfold fX12_returns_n84
          have q_10 : (-1 : Int32).toInt = (-1 : Int) := (iL (-1) (-1) rfl)
          refine zH_bp (tX12_fromPaper h) (fun x_11 μ_12 p_13 => ?_)
          have h_14 : K T C μ_12 := p_13
          exact zH_some h_14
        · unfold fX12_returns_n84
          refine zH_bp (tX12_fromPaper h) (fun x_15 μ_16 p_17 => ?_)
          have h_18 : K T C μ_16 := p_17
          exact zH_some h_18
      · have q_19 : (1 : Int32).toInt = (1 : Int) := (iL (1) (1) rfl)
        refine zH_bd (tX12_canGo) (fun x_20 p_21 => ?_)
        have q_22 : x_20.toInt = 0 ∨ x_20.toInt = 1 := p_21
        refine zH_eqc (rfl : x_20.toInt = _) (iL (0) (0) rfl) (fun c_23e c_23 => ?_) (fun c_23e c_23 => ?_)
        · unfold fX12_returns_n69
          refine zH_bd (tX12_doesHold (by omega) (by omega) (by omega) (by omega)) (fun x_24 p_25 => ?_)
          have q_26 : x_24.toInt = 0 ∨ x_24.toInt = 1 := p_25
          refine zH_eqc (rfl : x_24.toInt = _) (iL (0) (0) rfl) (fun c_27e c_27 => ?_) (fun c_27e c_27 => ?_)
          · unfold fX12_returns_n84
            have q_28 : (-1 : Int32).toInt = (-1 : Int) := (iL (-1) (-1) rfl)
            refine zH_bp (tX12_fromPaper h) (fun x_29 μ_30 p_31 => ?_)
            have h_32 : K T C μ_30 := p_31
            exact zH_some h_32
          · unfold fX12_returns_n84
            refine zH_bp (tX12_fromPaper h) (fun x_33 μ_34 p_35 => ?_)
            have h_36 : K T C μ_34 := p_35
            exact zH_some h_36
        · refine zH_bd (tX12_tickGoes h) (fun μ_37 p_38 => ?_)
          have h_39 : K T C μ_37 := p_38
          refine zH_lt (fun x_40 e_41 => ?_)
          have q_42 : x_40.toInt = (y3.toInt + (1 : Int)) := (congrArg Int32.toInt e_41).trans (iA (rfl : y3.toInt = _) (iL (1) (1) rfl) (by omega) (by omega))
          exact ih y1 y2 x_40 μ_37 h_39 (by omega) (by omega) (by omega) (by omega) (by omega) (by omega) (by omega)
    · unfold fX12_returns_n69
      refine zH_bd (tX12_doesHold (by omega) (by omega) (by omega) (by omega)) (fun x_43 p_44 => ?_)
      have q_45 : x_43.toInt = 0 ∨ x_43.toInt = 1 := p_44
      refine zH_eqc (rfl : x_43.toInt = _) (iL (0) (0) rfl) (fun c_46e c_46 => ?_) (fun c_46e c_46 => ?_)
      · unfold fX12_returns_n84
        have q_47 : (-1 : Int32).toInt = (-1 : Int) := (iL (-1) (-1) rfl)
        refine zH_bp (tX12_fromPaper h) (fun x_48 μ_49 p_50 => ?_)
        have h_51 : K T C μ_49 := p_50
        exact zH_some h_51
      · unfold fX12_returns_n84
        refine zH_bp (tX12_fromPaper h) (fun x_52 μ_53 p_54 => ?_)
        have h_55 : K T C μ_53 := p_54
        exact zH_some h_55
theorem tX12_returns {T : Int32} {C : gM} {a1 : Int32} {a2 : Int32} {μ : gM}  (h : K T C μ)  : zH (fX12_returns a1 a2 μ) (fun r => K T C r.2) := by
  unfold fX12_returns
  refine zH_lt (fun μ_1 e_2 => ?_)
  have h_3 : K T C μ_1 := by rw [e_2]; exact K.u267 h (by decide) (fun e => absurd e (by decide)) (fun e => absurd e (by decide))
  refine zH_bd (tX12_isMember h_3) (fun x_4 p_5 => ?_)
  have q_6 : (x_4.toInt = 0 ∨ x_4.toInt = 1) ∧ (x_4.toInt = 1 → 0 ≤ a1.toInt ∧ a1.toInt ≤ 4 ∧ 0 ≤ a2.toInt ∧ a2.toInt ≤ 5) := p_5
  refine zH_eqc (rfl : x_4.toInt = _) (iL (0) (0) rfl) (fun c_7e c_7 => ?_) (fun c_7e c_7 => ?_)
  · exact zH_some h_3
  · refine zH_bd (tX12_isUp) (fun x_8 p_9 => ?_)
    have q_10 : x_8.toInt = 0 ∨ x_8.toInt = 1 := p_9
    refine zH_eqc (rfl : x_8.toInt = _) (iL (0) (0) rfl) (fun c_11e c_11 => ?_) (fun c_11e c_11 => ?_)
    · refine zH_bd (tX12_toPaper h_3) (fun μ_12 p_13 => ?_)
      have h_14 : K T C μ_12 := p_13
      refine zH_bd (tX12_comesUp h_14) (fun μ_15 p_16 => ?_)
      have h_17 : K T C μ_15 := p_16
      have q_18 : (0 : Int32).toInt = (0 : Int) := (iL (0) (0) rfl)
      exact zH_mono (tX12_returns_l35 100000 a1 a2 (0 : Int32) μ_15 h_17 (by omega) (by omega) (by omega) (by omega) (by omega) (by omega) (by omega)) (fun r_20 p_19 => p_19)
    · exact zH_some h_3
theorem tX12_under {T : Int32} {C : gM} {a1 : Int32} {a2 : Int32} {a3 : Int32} {μ : gM}  (h : K T C μ)  : zH (fX12_under a1 a2 a3 μ) (fun r => K T C r.2) := by
  unfold fX12_under
  refine zH_lt (fun μ_1 e_2 => ?_)
  have h_3 : K T C μ_1 := by rw [e_2]; exact K.u267 h (by decide) (fun e => absurd e (by decide)) (fun e => absurd e (by decide))
  refine zH_bd (tX12_isGroup h_3) (fun x_4 p_5 => ?_)
  have q_6 : (x_4.toInt = 0 ∨ x_4.toInt = 1) ∧ (x_4.toInt = 1 → 0 ≤ a1.toInt ∧ a1.toInt ≤ 4 ∧ a1.toInt < (μ_1 269 2).toInt) := p_5
  have f_7 : 0 ≤ (μ_1 269 2).toInt ∧ (μ_1 269 2).toInt ≤ 5 := h_3.2.2.2.1.2.2.1
  refine zH_eqc (rfl : x_4.toInt = _) (iL (0) (0) rfl) (fun c_8e c_8 => ?_) (fun c_8e c_8 => ?_)
  · exact zH_some h_3
  · refine zH_bd (tX12_isGate h_3) (fun x_9 p_10 => ?_)
    have q_11 : (x_9.toInt = 0 ∨ x_9.toInt = 1) ∧ (x_9.toInt = 1 → 0 ≤ a2.toInt ∧ a2.toInt ≤ 5) := p_10
    refine zH_eqc (rfl : x_9.toInt = _) (iL (0) (0) rfl) (fun c_12e c_12 => ?_) (fun c_12e c_12 => ?_)
    · exact zH_some h_3
    · have f_13 : 0 ≤ (μ_1 269 1).toInt ∧ (μ_1 269 1).toInt ≤ 8 := h_3.2.2.2.1.2.1
      refine zH_bd (tX12_isIn (i64 (rfl : a3.toInt = _)) (iLL (0) (0) rfl) (i64 (rfl : (((1 : Int32) <<< ((μ_1 269 1) &&& 31)) - (1 : Int32)).toInt = _))) (fun x_14 p_15 => ?_)
      have q_16 : (x_14.toInt = 0 ∨ x_14.toInt = 1) ∧ (x_14.toInt = 1 → (0 : Int) ≤ a3.toInt ∧ a3.toInt ≤ (((1 : Int32) <<< ((μ_1 269 1) &&& 31)) - (1 : Int32)).toInt) ∧ (x_14.toInt = 0 → a3.toInt < (0 : Int) ∨ (((1 : Int32) <<< ((μ_1 269 1) &&& 31)) - (1 : Int32)).toInt < a3.toInt) := p_15
      refine zH_eqc (rfl : x_14.toInt = _) (iL (0) (0) rfl) (fun c_17e c_17 => ?_) (fun c_17e c_17 => ?_)
      · exact zH_some h_3
      · have q_18 : (300 : Int32).toInt = (300 : Int) := (iL (300) (300) rfl)
        refine zH_bd (tX12_canGo) (fun x_19 p_20 => ?_)
        have q_21 : x_19.toInt = 0 ∨ x_19.toInt = 1 := p_20
        refine zH_eqc (rfl : x_19.toInt = _) (iL (0) (0) rfl) (fun c_22e c_22 => ?_) (fun c_22e c_22 => ?_)
        · exact zH_some h_3
        · refine zH_bd (tX12_toPaper h_3) (fun μ_23 p_24 => ?_)
          have h_25 : K T C μ_23 := p_24
          refine zH_lt (fun μ_26 e_27 => ?_)
          have h_28 : K T C μ_26 := by rw [e_27]; exact K.uw h_25 (by decide)
          refine zH_bd (tX12_goes h_28 (by omega)) (fun μ_29 p_30 => ?_)
          have h_31 : K T C μ_29 := p_30
          refine zH_bd (tX12_holderOf h_31 (by omega) (by omega)) (fun x_32 p_33 => ?_)
          have q_34 : (-1 : Int) ≤ x_32.toInt ∧ x_32.toInt ≤ 5 := p_33
          refine zH_bp (tX12_fromPaper h_31) (fun x_35 μ_36 p_37 => ?_)
          have h_38 : K T C μ_36 := p_37
          exact zH_some h_38
theorem tX12_log {T : Int32} {C : gM} {a1 : Int32} {a2 : Int32} {μ : gM}  (h : K T C μ)  : zH (fX12_log a1 a2 μ) (fun r => K T C r.2) := by
  unfold fX12_log
  refine zH_lt (fun μ_1 e_2 => ?_)
  have h_3 : K T C μ_1 := by rw [e_2]; exact K.u267 h (by decide) (fun e => absurd e (by decide)) (fun e => absurd e (by decide))
  have f_4 : 0 ≤ (μ_1 272 7).toInt ∧ (μ_1 272 7).toInt ≤ 60 := h_3.2.2.2.2.2.2.1.1
  refine zH_bd (tX12_isIn (i64 (rfl : a1.toInt = _)) (iLL (0) (0) rfl) (i64 (iS (rfl : (μ_1 272 7).toInt = _) (iL (1) (1) rfl) (by omega) (by omega)))) (fun x_5 p_6 => ?_)
  have q_7 : (x_5.toInt = 0 ∨ x_5.toInt = 1) ∧ (x_5.toInt = 1 → (0 : Int) ≤ a1.toInt ∧ a1.toInt ≤ ((μ_1 272 7).toInt - (1 : Int))) ∧ (x_5.toInt = 0 → a1.toInt < (0 : Int) ∨ ((μ_1 272 7).toInt - (1 : Int)) < a1.toInt) := p_6
  refine zH_eqc (rfl : x_5.toInt = _) (iL (0) (0) rfl) (fun c_8e c_8 => ?_) (fun c_8e c_8 => ?_)
  · exact zH_some h_3
  · refine zH_bd (tX12_isIn (i64 (rfl : a2.toInt = _)) (iLL (0) (0) rfl) (iLL (3) (3) rfl)) (fun x_9 p_10 => ?_)
    have q_11 : (x_9.toInt = 0 ∨ x_9.toInt = 1) ∧ (x_9.toInt = 1 → (0 : Int) ≤ a2.toInt ∧ a2.toInt ≤ (3 : Int)) ∧ (x_9.toInt = 0 → a2.toInt < (0 : Int) ∨ (3 : Int) < a2.toInt) := p_10
    refine zH_eqc (rfl : x_9.toInt = _) (iL (0) (0) rfl) (fun c_12e c_12 => ?_) (fun c_12e c_12 => ?_)
    · exact zH_some h_3
    · refine zH_ck (zIn (iA (iA (iL (245) (245) rfl) (iM (iL (4) (4) rfl) (rfl : a1.toInt = _) (by omega) (by omega)) (by omega) (by omega)) (rfl : a2.toInt = _) (by omega) (by omega)) (by omega) (by omega)) ?_
      exact zH_some h_3
theorem tX12_undo {T : Int32} {C : gM} {μ : gM}  (h : K T C μ)  : zH (fX12_undo μ) (fun r => K T C r.2) := by
  unfold fX12_undo
  refine zH_lt (fun μ_1 e_2 => ?_)
  have h_3 : K T C μ_1 := by rw [e_2]; exact K.u267 h (by decide) (fun e => absurd e (by decide)) (fun e => absurd e (by decide))
  refine zH_eqc (rfl : (μ_1 267 15).toInt = _) (iL (0) (0) rfl) (fun c_4e c_4 => ?_) (fun c_4e c_4 => ?_)
  · exact zH_some h_3
  · have f_6 : 0 ≤ (μ_1 267 20).toInt ∧ (μ_1 267 20).toInt ≤ 12 := h_3.2.2.1.2.2.2
    refine zH_eqc (rfl : (μ_1 267 20).toInt = _) (iL (0) (0) rfl) (fun c_5e c_5 => ?_) (fun c_5e c_5 => ?_)
    · exact zH_some h_3
    · refine zH_lt (fun μ_7 e_8 => ?_)
      have h_9 : K T C μ_7 := by rw [e_8]; exact K.u267 h_3 (by decide) (fun e => absurd e (by decide)) (fun _ => show (0 : Int) ≤ ((μ_1 267 20) - (1 : Int32)).toInt ∧ ((μ_1 267 20) - (1 : Int32)).toInt ≤ 12 from by have q_10 : ((μ_1 267 20) - (1 : Int32)).toInt = ((μ_1 267 20).toInt - (1 : Int)) := (iS (rfl : (μ_1 267 20).toInt = _) (iL (1) (1) rfl) (by omega) (by omega)); omega)
      have f_11 : 0 ≤ (μ_7 267 20).toInt ∧ (μ_7 267 20).toInt ≤ 12 := h_9.2.2.1.2.2.2
      refine zH_bd (tX12_takesFrom h_9 (by omega) (by omega)) (fun μ_12 p_13 => ?_)
      have h_14 : K T C μ_12 := p_13.1
      have q_15 : (μ_12 267 20).toInt = (μ_7 267 20).toInt := p_13.2
      have f_16 : 0 ≤ (μ_12 267 20).toInt ∧ (μ_12 267 20).toInt ≤ 12 := h_14.2.2.1.2.2.2
      exact zH_some h_14
theorem tX12_keep {T : Int32} {C : gM} {a1 : Int32} {μ : gM}  (h : K T C μ)  : zH (fX12_keep a1 μ) (fun r => K T C r.2) := by
  unfold fX12_keep
  refine zH_lt (fun μ_1 e_2 => ?_)
  have h_3 : K T C μ_1 := by rw [e_2]; exact K.u267 h (by decide) (fun e => absurd e (by decide)) (fun e => absurd e (by decide))
  refine zH_bd (tX12_isIn (i64 (rfl : a1.toInt = _)) (iLL (0) (0) rfl) (iLL (1) (1) rfl)) (fun x_4 p_5 => ?_)
  have q_6 : (x_4.toInt = 0 ∨ x_4.toInt = 1) ∧ (x_4.toInt = 1 → (0 : Int) ≤ a1.toInt ∧ a1.toInt ≤ (1 : Int)) ∧ (x_4.toInt = 0 → a1.toInt < (0 : Int) ∨ (1 : Int) < a1.toInt) := p_5
  refine zH_eqc (rfl : x_4.toInt = _) (iL (0) (0) rfl) (fun c_7e c_7 => ?_) (fun c_7e c_7 => ?_)
  · exact zH_some h_3
  · refine zH_eqc (rfl : (μ_1 267 15).toInt = _) (iL (0) (0) rfl) (fun c_8e c_8 => ?_) (fun c_8e c_8 => ?_)
    · exact zH_some h_3
    · have q_9 : ((12 : Int32) + a1).toInt = ((12 : Int) + a1.toInt) := (iA (iL (12) (12) rfl) (rfl : a1.toInt = _) (by omega) (by omega))
      refine zH_bd (tX12_putsTo h_3 (by omega) (by omega)) (fun μ_10 p_11 => ?_)
      have h_12 : K T C μ_10 := p_11.1
      have q_13 : (μ_10 267 20).toInt = (μ_1 267 20).toInt := p_11.2
      have f_14 : 0 ≤ (μ_10 267 20).toInt ∧ (μ_10 267 20).toInt ≤ 12 := h_12.2.2.1.2.2.2
      have f_15 : 0 ≤ (μ_1 267 20).toInt ∧ (μ_1 267 20).toInt ≤ 12 := h_3.2.2.1.2.2.2
      refine zH_ck (zIn (rfl : a1.toInt = _) (by omega) (by omega)) ?_
      refine zH_lt (fun μ_16 e_17 => ?_)
      have h_18 : K T C μ_16 := by rw [e_17]; exact K.uf h_12 (by decide)
      exact zH_some h_18
theorem tX12_back {T : Int32} {C : gM} {a1 : Int32} {μ : gM}  (h : K T C μ)  : zH (fX12_back a1 μ) (fun r => K T C r.2) := by
  unfold fX12_back
  refine zH_lt (fun μ_1 e_2 => ?_)
  have h_3 : K T C μ_1 := by rw [e_2]; exact K.u267 h (by decide) (fun e => absurd e (by decide)) (fun e => absurd e (by decide))
  refine zH_bd (tX12_isIn (i64 (rfl : a1.toInt = _)) (iLL (0) (0) rfl) (iLL (1) (1) rfl)) (fun x_4 p_5 => ?_)
  have q_6 : (x_4.toInt = 0 ∨ x_4.toInt = 1) ∧ (x_4.toInt = 1 → (0 : Int) ≤ a1.toInt ∧ a1.toInt ≤ (1 : Int)) ∧ (x_4.toInt = 0 → a1.toInt < (0 : Int) ∨ (1 : Int) < a1.toInt) := p_5
  refine zH_eqc (rfl : x_4.toInt = _) (iL (0) (0) rfl) (fun c_7e c_7 => ?_) (fun c_7e c_7 => ?_)
  · exact zH_some h_3
  · refine zH_eqc (rfl : (μ_1 267 15).toInt = _) (iL (0) (0) rfl) (fun c_8e c_8 => ?_) (fun c_8e c_8 => ?_)
    · exact zH_some h_3
    · refine zH_ck (zIn (rfl : a1.toInt = _) (by omega) (by omega)) ?_
      refine zH_eqc (rfl : (μ_1 274 (a1).toNatClampNeg).toInt = _) (iL (0) (0) rfl) (fun c_9e c_9 => ?_) (fun c_9e c_9 => ?_)
      · exact zH_some h_3
      · have q_10 : ((12 : Int32) + a1).toInt = ((12 : Int) + a1.toInt) := (iA (iL (12) (12) rfl) (rfl : a1.toInt = _) (by omega) (by omega))
        refine zH_bd (tX12_takesFrom h_3 (by omega) (by omega)) (fun μ_11 p_12 => ?_)
        have h_13 : K T C μ_11 := p_12.1
        have q_14 : (μ_11 267 20).toInt = (μ_1 267 20).toInt := p_12.2
        have f_15 : 0 ≤ (μ_11 267 20).toInt ∧ (μ_11 267 20).toInt ≤ 12 := h_13.2.2.1.2.2.2
        have f_16 : 0 ≤ (μ_1 267 20).toInt ∧ (μ_1 267 20).toInt ≤ 12 := h_3.2.2.1.2.2.2
        refine zH_lt (fun μ_17 e_18 => ?_)
        have h_19 : K T C μ_17 := by rw [e_18]; exact K.u267 h_13 (by decide) (fun e => absurd e (by decide)) (fun _ => show (0 : Int) ≤ (0 : Int32).toInt ∧ (0 : Int32).toInt ≤ 12 from by have q_20 : (0 : Int32).toInt = (0 : Int) := (iL (0) (0) rfl); omega)
        exact zH_some h_19
/-! letter, slot, host, load, rank -/
theorem iMod {a b : Int32} {x y : Int} (ha : a.toInt = x) (hb : b.toInt = y) (h0 : 0 ≤ x) (h1 : 1 ≤ y) : (a - a / b * b).toInt = x % y := by
  have ba := i32b a
  have bb := i32b b
  have d0 : 0 ≤ x / y := Int.ediv_nonneg h0 (by omega)
  have d1 : x / y ≤ x := Int.ediv_le_self y h0
  have d2 : x / y * y ≤ x := Int.ediv_mul_le x (by omega)
  have d3 : 0 ≤ x / y * y := Int.mul_nonneg d0 (by omega)
  have e1 : (a / b).toInt = x / y := by
    rw [Int32.toInt_div, ha, hb, Int.tdiv_eq_ediv_of_nonneg h0, zbm (by omega) (by omega)]
  have e2 : (a / b * b).toInt = x / y * y := iM e1 hb (by omega) (by omega)
  have e3 := iS ha e2 (by omega) (by omega)
  rw [e3, Int.emod_def, Int.mul_comm]
theorem K.u0 {T : Int32} {C μ : gM} (h : K T C μ) (v : Int32) : K T C (gUp μ 267 0 v) := h.u267 (by decide) (fun e => absurd e (by decide)) (fun e => absurd e (by decide))
theorem tX12_letter {T : Int32} {C μ : gM} {a1 a2 a3 : Int32} (h : K T C μ) : zH (fX12_letter a1 a2 a3 μ) (fun r => K T C r.2) := by
  unfold fX12_letter
  refine zH_lt (fun μ1 e1 => ?_)
  have h1 : K T C μ1 := by rw [e1]; exact h.u0 _
  refine zH_bd (tX12_isIn (i64 (rfl : a1.toInt = _)) (iLL (0) (0) rfl) (iLL (2) (2) rfl)) (fun x2 p2 => ?_)
  refine zH_eqc (rfl : x2.toInt = _) (iL (0) (0) rfl) (fun _ _ => zH_some h1) (fun _ c2 => ?_)
  have w1 : 0 ≤ a1.toInt ∧ a1.toInt ≤ 2 := p2.2.1 (by have := p2.1; omega)
  rw [show (0 : Int32) + a1 = a1 from Int32.zero_add _]
  have nc := h1.2.2.2.1.c w1.1 w1.2
  refine zH_ck (zIn (rfl : a1.toInt = _) (by omega) (by omega)) ?_
  refine zH_bd (tX12_isIn (i64 (rfl : a2.toInt = _)) (iLL (0) (0) rfl) (i64 (iS (rfl : (μ1 269 a1.toNatClampNeg).toInt = _) (iL (1) (1) rfl) (by omega) (by omega)))) (fun x4 p4 => ?_)
  refine zH_eqc (rfl : x4.toInt = _) (iL (0) (0) rfl) (fun _ _ => zH_some h1) (fun _ c4 => ?_)
  have w4 : 0 ≤ a2.toInt ∧ a2.toInt ≤ (μ1 269 a1.toNatClampNeg).toInt - 1 := p4.2.1 (by have := p4.1; omega)
  refine zH_bd (tX12_isIn (i64 (rfl : a3.toInt = _)) (iLL (0) (0) rfl) (iLL (5) (5) rfl)) (fun x5 p5 => ?_)
  refine zH_eqc (rfl : x5.toInt = _) (iL (0) (0) rfl) (fun _ _ => zH_some h1) (fun _ c5 => ?_)
  refine zH_ck (zIn (iA (iA (iL (4) (4) rfl) (iM (iL (8) (8) rfl) (rfl : a1.toInt = _) (by omega) (by omega)) (by omega) (by omega)) (rfl : a2.toInt = _) (by omega) (by omega)) (by omega) (by omega)) ?_
  refine zH_lt (fun x7 e7 => ?_)
  exact tX12_letter_l69 100000 a3 x7 (0 : Int32) μ1 h1 (by decide) (by decide) (by decide)
theorem tX12_slot {T : Int32} {C μ : gM} {a1 a2 a3 : Int32} (h : K T C μ) : zH (fX12_slot a1 a2 a3 μ) (fun r => K T C r.2) := by
  unfold fX12_slot
  refine zH_lt (fun μ1 e1 => ?_)
  have h1 : K T C μ1 := by rw [e1]; exact h.u0 _
  refine zH_bd (tX12_isGroup h1) (fun x2 p2 => ?_)
  refine zH_eqc (rfl : x2.toInt = _) (iL (0) (0) rfl) (fun _ _ => zH_some h1) (fun _ c2 => ?_)
  have w2 := p2.2 (by have := p2.1; omega)
  refine zH_bd (tX12_isGate h1) (fun x3 p3 => ?_)
  refine zH_eqc (rfl : x3.toInt = _) (iL (0) (0) rfl) (fun _ _ => zH_some h1) (fun _ c3 => ?_)
  have q43 := iA (iL (43) (43) rfl) (rfl : a1.toInt = _) (by omega) (by omega)
  have m := h1.m43 q43 (by omega) (by omega)
  refine zH_ck (zIn q43 (by omega) (by omega)) ?_
  refine zH_bd (tX12_isIn (i64 (rfl : a3.toInt = _)) (iLL (0) (0) rfl) (i64 (iS (rfl : (μ1 269 ((43 : Int32) + a1).toNatClampNeg).toInt = _) (iL (1) (1) rfl) (by omega) (by omega)))) (fun x5 p5 => ?_)
  refine zH_eqc (rfl : x5.toInt = _) (iL (0) (0) rfl) (fun _ _ => zH_some h1) (fun _ c5 => ?_)
  have w5 := p5.2.1 (by have := p5.1; omega)
  refine zH_bd (tX12_laysSlots h1 (by omega) (by omega)) (fun μ6 p6 => ?_)
  refine zH_ck (zIn (rfl : a3.toInt = _) (by omega) (by omega)) ?_
  exact zH_some p6.1
theorem tX12_host {T : Int32} {C μ : gM} {a1 a2 a3 : Int32} (h : K T C μ) : zH (fX12_host a1 a2 a3 μ) (fun r => K T C r.2) := by
  unfold fX12_host
  refine zH_lt (fun μ1 e1 => ?_)
  have h1 : K T C μ1 := by rw [e1]; exact h.u0 _
  refine zH_bd (tX12_isGroup h1) (fun x2 p2 => ?_)
  refine zH_eqc (rfl : x2.toInt = _) (iL (0) (0) rfl) (fun _ _ => zH_some h1) (fun _ c2 => ?_)
  have w2 : 0 ≤ a1.toInt ∧ a1.toInt ≤ 4 ∧ a1.toInt < (μ1 269 2).toInt := p2.2 (by have := p2.1; omega)
  refine zH_bd (tX12_isGate h1) (fun x3 p3 => ?_)
  refine zH_eqc (rfl : x3.toInt = _) (iL (0) (0) rfl) (fun _ _ => zH_some h1) (fun _ c3 => ?_)
  refine zH_lec (iL (0) (0) rfl) (rfl : a3.toInt = _) (fun c => ?_) (fun _ => zH_some h1)
  refine zH_bd (tX12_laysSlots h1 (by omega) (by omega)) (fun μ4 p4 => ?_)
  have r4 : (μ4 269 2).toInt = (μ1 269 2).toInt := p4.2
  have q43 := iA (iL (43) (43) rfl) (rfl : a1.toInt = _) (by omega) (by omega)
  have m := K.m43 p4.1 q43 (by omega) (by omega)
  have mp := K.m43p p4.1 q43 (by omega) (by omega)
  refine zH_ck (zIn q43 (by omega) (by omega)) ?_
  refine zH_ck (zNz (by omega)) ?_
  have qm := iMod (rfl : a3.toInt = _) (rfl : (μ4 269 ((43 : Int32) + a1).toNatClampNeg).toInt = _) c mp
  have e0 := Int.emod_nonneg a3.toInt (show (μ4 269 ((43 : Int32) + a1).toNatClampNeg).toInt ≠ 0 by omega)
  have e8 := Int.emod_lt_of_pos a3.toInt (show 0 < (μ4 269 ((43 : Int32) + a1).toNatClampNeg).toInt by omega)
  refine zH_ck (zIn qm e0 (by omega)) ?_
  exact zH_some p4.1
theorem tX12_load {T : Int32} {C μ : gM} {a1 a2 a3 : Int32} (h : K T C μ) : zH (fX12_load a1 a2 a3 μ) (fun r => K T C r.2) := by
  unfold fX12_load
  refine zH_lt (fun μ1 e1 => ?_)
  have h1 : K T C μ1 := by rw [e1]; exact h.u0 _
  refine zH_bd (tX12_isGroup h1) (fun x2 p2 => ?_)
  refine zH_eqc (rfl : x2.toInt = _) (iL (0) (0) rfl) (fun _ _ => zH_some h1) (fun _ c2 => ?_)
  have w2 := p2.2 (by have := p2.1; omega)
  refine zH_bd (tX12_isGate h1) (fun x3 p3 => ?_)
  refine zH_ite (fun _ => zH_some h1) (fun _ => ?_)
  refine zH_bd (tX12_isIn (i64 (rfl : a3.toInt = _)) (iLL (1) (1) rfl) (iLL (9999) (9999) rfl)) (fun x4 p4 => ?_)
  refine zH_ite (fun _ => zH_some h1) (fun _ => ?_)
  refine zH_bd (tX12_laysSlots h1 (by omega) (by omega)) (fun μ5 p5 => ?_)
  have q43 := iA (iL (43) (43) rfl) (rfl : a1.toInt = _) (by omega) (by omega)
  have m := K.m43 p5.1 q43 (by omega) (by omega)
  refine zH_ck (zIn q43 (by omega) (by omega)) ?_
  refine zH_lt (fun x7 e7 => ?_)
  have q7 : x7.toInt ≤ 8 := by rw [e7]; exact m.2
  exact tX12_load_l58 100000 a2 a3 x7 (0 : Int32) (0 : Int32) μ5 p5.1 (by decide) (by decide) q7 (by decide)
theorem drop_dec : ∀ n : Fin 64, ∀ b : Fin 6, (((Int32.ofNat n.val) >>> ((Int32.ofNat b.val) &&& 31)) &&& (1 : Int32)) = (1 : Int32) → 0 ≤ (Int32.ofNat n.val &&& (((1 : Int32) <<< (Int32.ofNat b.val &&& 31)) ^^^ (-1 : Int32))).toInt ∧ (Int32.ofNat n.val &&& (((1 : Int32) <<< (Int32.ofNat b.val &&& 31)) ^^^ (-1 : Int32))).toInt < (Int32.ofNat n.val).toInt := by decide +kernel
theorem tX12_rank_l40 {T : Int32} {C : gM} : ∀ (n : Nat) (y1 y2 y3 y4 y5 : Int32) (μ : gM), K T C μ → 0 ≤ y1.toInt → y1.toInt ≤ 4 → 0 ≤ y3.toInt → y3.toInt ≤ 63 → (y4.toInt = -1 ∨ ((0 ≤ y4.toInt ∧ y4.toInt ≤ 5) ∧ bitAt y3 y4)) → y3.toInt < (n : Int) → zH (fX12_rank_l40 n y1 y2 y3 y4 y5 μ) (fun r => K T C r.2) := by
  intro n
  induction n with
  | zero =>
    intro y1 y2 y3 y4 y5 μ h g0 g1 g2 g3 b gm
    exact absurd gm (by omega)
  | succ n ih =>
    intro y1 y2 y3 y4 y5 μ h g0 g1 g2 g3 b gm
    rw [fX12_rank_l40]
    refine zH_ite (fun _ => zH_some h) (fun _ => ?_)
    refine zH_eqc (rfl : y4.toInt = _) (iL (-1) (-1) rfl) (fun _ _ => zH_some h) (fun _ c => ?_)
    refine zH_lt (fun x6 e6 => ?_)
    have w : 0 ≤ x6.toInt ∧ x6.toInt < y3.toInt := by
      rcases b with b | ⟨b, bt⟩
      · exact absurd b c
      · obtain ⟨m, rfl⟩ := i32_nat (N := 64) g2 (by omega) (by decide)
        obtain ⟨k, rfl⟩ := i32_nat (N := 6) b.1 (by omega) (by decide)
        rw [e6]
        exact drop_dec m k bt
    refine zH_bd (sX12_strongestOf h g0 g1) (fun x7 p7 => ?_)
    refine zH_lt (fun x8 e8 => ?_)
    exact ih y1 y2 x6 x7 x8 μ h g0 g1 w.1 (by omega) p7 (by omega)
theorem tX12_rank {T : Int32} {C μ : gM} {a1 a2 : Int32} (h : K T C μ) : zH (fX12_rank a1 a2 μ) (fun r => K T C r.2) := by
  unfold fX12_rank
  refine zH_lt (fun μ1 e1 => ?_)
  have h1 : K T C μ1 := by rw [e1]; exact h.u0 _
  refine zH_bd (tX12_isGroup h1) (fun x2 p2 => ?_)
  refine zH_eqc (rfl : x2.toInt = _) (iL (0) (0) rfl) (fun _ _ => zH_some h1) (fun _ c2 => ?_)
  have w2 := p2.2 (by have := p2.1; omega)
  refine zH_lec (iL (0) (0) rfl) (rfl : a2.toInt = _) (fun c => ?_) (fun _ => zH_some h1)
  have q48 := iA (iL (48) (48) rfl) (rfl : a1.toInt = _) (by omega) (by omega)
  have m := h1.m48 q48 (by omega) (by omega)
  refine zH_ck (zIn q48 (by omega) (by omega)) ?_
  refine zH_lt (fun x4 e4 => ?_)
  rw [← e4] at m
  refine zH_bd (sX12_strongestOf h1 w2.1 w2.2.1) (fun x5 p5 => ?_)
  exact tX12_rank_l40 100000 a1 a2 x4 x5 (0 : Int32) μ1 h1 w2.1 w2.2.1 m.1 m.2 p5 (by omega)
