theorem tX11_fault {w : Bool} {L : Int32} {M : gM} {a1 : Int32} {μ : gM}  (h : J w L M μ)  : zH (fX11_fault a1 μ) (fun _ => True) := by
  unfold fX11_fault
  refine zH_eqc (rfl : a1.toInt = _) (iL (0) (0) rfl) (fun c_1e c_1 => ?_) (fun c_1e c_1 => ?_)
  · exact zH_some trivial
  · refine zH_eqc (rfl : a1.toInt = _) (iL (1) (1) rfl) (fun c_2e c_2 => ?_) (fun c_2e c_2 => ?_)
    · exact zH_some trivial
    · exact zH_some trivial
theorem tX11_has {w : Bool} {L : Int32} {M : gM} {a1 : Int32} {μ : gM}  (h : J w L M μ)  : zH (fX11_has a1 μ) (fun _ => True) := by
  unfold fX11_has
  refine zH_eqc (rfl : (μ 4 0).toInt = _) (iL (0) (0) rfl) (fun c_1e c_1 => ?_) (fun c_1e c_1 => ?_)
  · exact zH_some trivial
  · refine zH_eqc (rfl : a1.toInt = _) (iL (0) (0) rfl) (fun c_2e c_2 => ?_) (fun c_2e c_2 => ?_)
    · exact zH_some trivial
    · refine zH_eqc (rfl : a1.toInt = _) (iL (1) (1) rfl) (fun c_3e c_3 => ?_) (fun c_3e c_3 => ?_)
      · exact zH_some trivial
      · refine zH_eqc (rfl : a1.toInt = _) (iL (2) (2) rfl) (fun c_4e c_4 => ?_) (fun c_4e c_4 => ?_)
        · exact zH_some trivial
        · refine zH_eqc (rfl : a1.toInt = _) (iL (3) (3) rfl) (fun c_5e c_5 => ?_) (fun c_5e c_5 => ?_)
          · refine zH_bd (tX1_countMembers) (fun x_6 p_7 => ?_)
            exact zH_some trivial
          · refine zH_eqc (rfl : a1.toInt = _) (iL (4) (4) rfl) (fun c_8e c_8 => ?_) (fun c_8e c_8 => ?_)
            · exact zH_some trivial
            · refine zH_eqc (rfl : a1.toInt = _) (iL (5) (5) rfl) (fun c_9e c_9 => ?_) (fun c_9e c_9 => ?_)
              · exact zH_some trivial
              · refine zH_eqc (rfl : a1.toInt = _) (iL (6) (6) rfl) (fun c_10e c_10 => ?_) (fun c_10e c_10 => ?_)
                · exact zH_some trivial
                · refine zH_eqc (rfl : a1.toInt = _) (iL (7) (7) rfl) (fun c_11e c_11 => ?_) (fun c_11e c_11 => ?_)
                  · exact zH_some trivial
                  · refine zH_eqc (rfl : a1.toInt = _) (iL (8) (8) rfl) (fun c_12e c_12 => ?_) (fun c_12e c_12 => ?_)
                    · exact zH_some trivial
                    · refine zH_eqc (rfl : a1.toInt = _) (iL (9) (9) rfl) (fun c_13e c_13 => ?_) (fun c_13e c_13 => ?_)
                      · exact zH_some trivial
                      · refine zH_eqc (rfl : a1.toInt = _) (iL (10) (10) rfl) (fun c_14e c_14 => ?_) (fun c_14e c_14 => ?_)
                        · exact zH_some trivial
                        · refine zH_eqc (rfl : a1.toInt = _) (iL (11) (11) rfl) (fun c_15e c_15 => ?_) (fun c_15e c_15 => ?_)
                          · exact zH_some trivial
                          · refine zH_eqc (rfl : a1.toInt = _) (iL (12) (12) rfl) (fun c_16e c_16 => ?_) (fun c_16e c_16 => ?_)
                            · exact zH_some trivial
                            · refine zH_eqc (rfl : a1.toInt = _) (iL (13) (13) rfl) (fun c_17e c_17 => ?_) (fun c_17e c_17 => ?_)
                              · exact zH_some trivial
                              · refine zH_eqc (rfl : a1.toInt = _) (iL (14) (14) rfl) (fun c_18e c_18 => ?_) (fun c_18e c_18 => ?_)
                                · exact zH_some trivial
                                · refine zH_eqc (rfl : a1.toInt = _) (iL (15) (15) rfl) (fun c_19e c_19 => ?_) (fun c_19e c_19 => ?_)
                                  · exact zH_some trivial
                                  · exact zH_some trivial
theorem tX11_group {w : Bool} {L : Int32} {M : gM} {a1 : Int32} {a2 : Int32} {μ : gM}  (h : J w L M μ)  : zH (fX11_group a1 a2 μ) (fun _ => True) := by
  unfold fX11_group
  refine zH_bd (tX1_isGroup h.nb4) (fun x_1 p_2 => ?_)
  have q_3 : (x_1.toInt = 0 ∨ x_1.toInt = 1) ∧ (x_1.toInt = 1 → 0 ≤ a1.toInt ∧ a1.toInt ≤ 4) := p_2
  refine zH_eqc (rfl : x_1.toInt = _) (iL (0) (0) rfl) (fun c_4e c_4 => ?_) (fun c_4e c_4 => ?_)
  · exact zH_some trivial
  · refine zH_eqc (rfl : a2.toInt = _) (iL (0) (0) rfl) (fun c_5e c_5 => ?_) (fun c_5e c_5 => ?_)
    · refine zH_ck (zIn (rfl : a1.toInt = _) (by omega) (by omega)) ?_
      exact zH_some trivial
    · refine zH_eqc (rfl : a2.toInt = _) (iL (1) (1) rfl) (fun c_6e c_6 => ?_) (fun c_6e c_6 => ?_)
      · refine zH_ck (zIn (rfl : a1.toInt = _) (by omega) (by omega)) ?_
        exact zH_some trivial
      · refine zH_eqc (rfl : a2.toInt = _) (iL (2) (2) rfl) (fun c_7e c_7 => ?_) (fun c_7e c_7 => ?_)
        · refine zH_ck (zIn (rfl : a1.toInt = _) (by omega) (by omega)) ?_
          exact zH_some trivial
        · refine zH_eqc (rfl : a2.toInt = _) (iL (3) (3) rfl) (fun c_8e c_8 => ?_) (fun c_8e c_8 => ?_)
          · refine zH_ck (zIn (rfl : a1.toInt = _) (by omega) (by omega)) ?_
            exact zH_some trivial
          · refine zH_eqc (rfl : a2.toInt = _) (iL (4) (4) rfl) (fun c_9e c_9 => ?_) (fun c_9e c_9 => ?_)
            · refine zH_ck (zIn (rfl : a1.toInt = _) (by omega) (by omega)) ?_
              exact zH_some trivial
            · refine zH_eqc (rfl : a2.toInt = _) (iL (5) (5) rfl) (fun c_10e c_10 => ?_) (fun c_10e c_10 => ?_)
              · refine zH_ck (zIn (rfl : a1.toInt = _) (by omega) (by omega)) ?_
                exact zH_some trivial
              · refine zH_eqc (rfl : a2.toInt = _) (iL (6) (6) rfl) (fun c_11e c_11 => ?_) (fun c_11e c_11 => ?_)
                · refine zH_ck (zIn (rfl : a1.toInt = _) (by omega) (by omega)) ?_
                  exact zH_some trivial
                · refine zH_eqc (rfl : a2.toInt = _) (iL (7) (7) rfl) (fun c_12e c_12 => ?_) (fun c_12e c_12 => ?_)
                  · refine zH_ck (zIn (rfl : a1.toInt = _) (by omega) (by omega)) ?_
                    exact zH_some trivial
                  · refine zH_eqc (rfl : a2.toInt = _) (iL (8) (8) rfl) (fun c_13e c_13 => ?_) (fun c_13e c_13 => ?_)
                    · refine zH_ck (zIn (rfl : a1.toInt = _) (by omega) (by omega)) ?_
                      exact zH_some trivial
                    · exact zH_some trivial
theorem tX11_member {w : Bool} {L : Int32} {M : gM} {a1 : Int32} {a2 : Int32} {a3 : Int32} {μ : gM}  (h : J w L M μ)  : zH (fX11_member a1 a2 a3 μ) (fun _ => True) := by
  unfold fX11_member
  refine zH_bd (tX1_isMember h.nb4) (fun x_1 p_2 => ?_)
  have q_3 : (x_1.toInt = 0 ∨ x_1.toInt = 1) ∧ (x_1.toInt = 1 → 0 ≤ a1.toInt ∧ a1.toInt ≤ 4 ∧ 0 ≤ a2.toInt ∧ a2.toInt ≤ 5) := p_2
  refine zH_eqc (rfl : x_1.toInt = _) (iL (0) (0) rfl) (fun c_4e c_4 => ?_) (fun c_4e c_4 => ?_)
  · exact zH_some trivial
  · refine zH_lt (fun x_5 e_6 => ?_)
    have q_7 : x_5.toInt = ((a1.toInt * (6 : Int)) + a2.toInt) := (congrArg Int32.toInt e_6).trans (iA (iM (rfl : a1.toInt = _) (iL (6) (6) rfl) (by omega) (by omega)) (rfl : a2.toInt = _) (by omega) (by omega))
    refine zH_eqc (rfl : a3.toInt = _) (iL (0) (0) rfl) (fun c_8e c_8 => ?_) (fun c_8e c_8 => ?_)
    · refine zH_ck (zIn (rfl : x_5.toInt = _) (by omega) (by omega)) ?_
      exact zH_some trivial
    · refine zH_eqc (rfl : a3.toInt = _) (iL (1) (1) rfl) (fun c_9e c_9 => ?_) (fun c_9e c_9 => ?_)
      · refine zH_ck (zIn (rfl : x_5.toInt = _) (by omega) (by omega)) ?_
        exact zH_some trivial
      · refine zH_eqc (rfl : a3.toInt = _) (iL (2) (2) rfl) (fun c_10e c_10 => ?_) (fun c_10e c_10 => ?_)
        · refine zH_ck (zIn (rfl : x_5.toInt = _) (by omega) (by omega)) ?_
          exact zH_some trivial
        · refine zH_eqc (rfl : a3.toInt = _) (iL (3) (3) rfl) (fun c_11e c_11 => ?_) (fun c_11e c_11 => ?_)
          · refine zH_bd (tX9_howIs (by omega) (by omega)) (fun x_12 p_13 => ?_)
            exact zH_some trivial
          · refine zH_eqc (rfl : a3.toInt = _) (iL (4) (4) rfl) (fun c_14e c_14 => ?_) (fun c_14e c_14 => ?_)
            · refine zH_ck (zIn (rfl : x_5.toInt = _) (by omega) (by omega)) ?_
              exact zH_some trivial
            · refine zH_eqc (rfl : a3.toInt = _) (iL (5) (5) rfl) (fun c_15e c_15 => ?_) (fun c_15e c_15 => ?_)
              · refine zH_ck (zIn (rfl : x_5.toInt = _) (by omega) (by omega)) ?_
                exact zH_some trivial
              · refine zH_eqc (rfl : a3.toInt = _) (iL (6) (6) rfl) (fun c_16e c_16 => ?_) (fun c_16e c_16 => ?_)
                · refine zH_ck (zIn (rfl : x_5.toInt = _) (by omega) (by omega)) ?_
                  refine zH_bd (tX1_patience (by omega) (by omega)) (fun x_17 p_18 => ?_)
                  exact zH_some trivial
                · refine zH_eqc (rfl : a3.toInt = _) (iL (7) (7) rfl) (fun c_19e c_19 => ?_) (fun c_19e c_19 => ?_)
                  · refine zH_ck (zIn (rfl : x_5.toInt = _) (by omega) (by omega)) ?_
                    exact zH_some trivial
                  · exact zH_some trivial
theorem tX11_letter {w : Bool} {L : Int32} {M : gM} {a1 : Int32} {a2 : Int32} {a3 : Int32} {μ : gM}  (h : J w L M μ)  : zH (fX11_letter a1 a2 a3 μ) (fun _ => True) := by
  unfold fX11_letter
  refine zH_bd (tX1_isThere h.nb4) (fun x_1 p_2 => ?_)
  have q_3 : (x_1.toInt = 0 ∨ x_1.toInt = 1) ∧ (x_1.toInt = 1 → 0 ≤ a1.toInt ∧ a1.toInt ≤ 2 ∧ 0 ≤ a2.toInt ∧ a2.toInt < 8 ∧ (a1.toInt = 0 → a2.toInt < 6) ∧ (a1.toInt = 2 → a2.toInt < 5)) := p_2
  refine zH_eqc (rfl : x_1.toInt = _) (iL (0) (0) rfl) (fun c_4e c_4 => ?_) (fun c_4e c_4 => ?_)
  · exact zH_some trivial
  · refine zH_ltc (rfl : a3.toInt = _) (iL (0) (0) rfl) (fun c_5 => ?_) (fun c_5 => ?_)
    · exact zH_some trivial
    · refine zH_ltc (rfl : a3.toInt = _) (iL (6) (6) rfl) (fun c_6 => ?_) (fun c_6 => ?_)
      · refine zH_ck (zIn (iA (iM (rfl : a1.toInt = _) (iL (8) (8) rfl) (by omega) (by omega)) (rfl : a2.toInt = _) (by omega) (by omega)) (by omega) (by omega)) ?_
        exact zH_some trivial
      · exact zH_some trivial
theorem tX11_track {w : Bool} {L : Int32} {M : gM} {a1 : Int32} {a2 : Int32} {μ : gM}  (h : J w L M μ)  : zH (fX11_track a1 a2 μ) (fun _ => True) := by
  unfold fX11_track
  refine zH_ltc (rfl : a1.toInt = _) (iL (0) (0) rfl) (fun c_1 => ?_) (fun c_1 => ?_)
  · exact zH_some trivial
  · have f_3 : (0 : Int) ≤ (μ 4 10).toInt ∧ (μ 4 10).toInt ≤ 24 := h.rd (a := 4) rfl (by decide) 10
    refine zH_ltc (rfl : a1.toInt = _) (rfl : (μ 4 10).toInt = _) (fun c_2 => ?_) (fun c_2 => ?_)
    · refine zH_eqc (rfl : a2.toInt = _) (iL (0) (0) rfl) (fun c_4e c_4 => ?_) (fun c_4e c_4 => ?_)
      · refine zH_ck (zIn (rfl : a1.toInt = _) (by omega) (by omega)) ?_
        exact zH_some trivial
      · refine zH_eqc (rfl : a2.toInt = _) (iL (1) (1) rfl) (fun c_5e c_5 => ?_) (fun c_5e c_5 => ?_)
        · refine zH_ck (zIn (rfl : a1.toInt = _) (by omega) (by omega)) ?_
          exact zH_some trivial
        · refine zH_eqc (rfl : a2.toInt = _) (iL (2) (2) rfl) (fun c_6e c_6 => ?_) (fun c_6e c_6 => ?_)
          · refine zH_ck (zIn (rfl : a1.toInt = _) (by omega) (by omega)) ?_
            exact zH_some trivial
          · refine zH_eqc (rfl : a2.toInt = _) (iL (3) (3) rfl) (fun c_7e c_7 => ?_) (fun c_7e c_7 => ?_)
            · refine zH_ck (zIn (rfl : a1.toInt = _) (by omega) (by omega)) ?_
              exact zH_some trivial
            · exact zH_some trivial
    · exact zH_some trivial
theorem tX11_event {w : Bool} {L : Int32} {M : gM} {a1 : Int32} {a2 : Int32} {μ : gM}  (h : J w L M μ)  : zH (fX11_event a1 a2 μ) (fun _ => True) := by
  unfold fX11_event
  refine zH_ltc (rfl : a1.toInt = _) (iL (0) (0) rfl) (fun c_1 => ?_) (fun c_1 => ?_)
  · exact zH_some trivial
  · have f_3 : (0 : Int) ≤ (μ 35 0).toInt ∧ (μ 35 0).toInt ≤ 20 := h.rd (a := 35) rfl (by decide) 0
    refine zH_lec (rfl : (μ 35 0).toInt = _) (rfl : a1.toInt = _) (fun c_2 => ?_) (fun c_2 => ?_)
    · exact zH_some trivial
    · refine zH_ltc (rfl : a2.toInt = _) (iL (0) (0) rfl) (fun c_4 => ?_) (fun c_4 => ?_)
      · exact zH_some trivial
      · refine zH_ltc (rfl : a2.toInt = _) (iL (5) (5) rfl) (fun c_5 => ?_) (fun c_5 => ?_)
        · refine zH_ck (zIn (iA (iM (rfl : a1.toInt = _) (iL (5) (5) rfl) (by omega) (by omega)) (rfl : a2.toInt = _) (by omega) (by omega)) (by omega) (by omega)) ?_
          exact zH_some trivial
        · exact zH_some trivial
theorem tX11_ticks {w : Bool} {L : Int32} {M : gM} {a1 : Int32} {μ : gM}  (h : J w L M μ)  : zH (fX11_ticks a1 μ) (fun r => J w L M r.2) := by
  unfold fX11_ticks
  refine zH_eqc (rfl : (μ 4 0).toInt = _) (iL (0) (0) rfl) (fun c_1e c_1 => ?_) (fun c_1e c_1 => ?_)
  · exact zH_some h
  · refine zH_ltc (rfl : a1.toInt = _) (iL (1) (1) rfl) (fun c_2 => ?_) (fun c_2 => ?_)
    · exact zH_some h
    · refine zH_ltc (iL (500) (500) rfl) (rfl : a1.toInt = _) (fun c_3 => ?_) (fun c_3 => ?_)
      · exact zH_some h
      · refine zH_lec (rfl : ((μ 34 0) + a1).toInt = _) (iL (9999) (9999) rfl) (fun c_4 => ?_) (fun c_4 => ?_)
        · refine zH_bd (tX4_save sS_34 h) (fun μ_5 p_6 => ?_)
          have h_7 : J w L M μ_5 := p_6
          refine zH_bd (tX10_run sW_34 h_7 (by omega)) (fun μ_8 p_9 => ?_)
          have h_10 : J w L M μ_8 := p_9
          exact zH_some h_10
        · exact zH_some h
theorem tX11_up {w : Bool} {L : Int32} {M : gM} {a1 : Int32} {μ : gM}  (h : J w L M μ)  : zH (fX11_up a1 μ) (fun r => J w L M r.2) := by
  unfold fX11_up
  have q_1 : (0 : Int32).toInt = (0 : Int) := (iL (0) (0) rfl)
  refine zH_bd (tX1_isThere h.nb4) (fun x_2 p_3 => ?_)
  have q_4 : (x_2.toInt = 0 ∨ x_2.toInt = 1) ∧ (x_2.toInt = 1 → 0 ≤ (0 : Int32).toInt ∧ (0 : Int32).toInt ≤ 2 ∧ 0 ≤ a1.toInt ∧ a1.toInt < 8 ∧ ((0 : Int32).toInt = 0 → a1.toInt < 6) ∧ ((0 : Int32).toInt = 2 → a1.toInt < 5)) := p_3
  refine zH_eqc (rfl : x_2.toInt = _) (iL (0) (0) rfl) (fun c_5e c_5 => ?_) (fun c_5e c_5 => ?_)
  · exact zH_some h
  · refine zH_bd (tX9_isUp) (fun x_6 p_7 => ?_)
    have q_8 : x_6.toInt = 0 ∨ x_6.toInt = 1 := p_7
    refine zH_eqc (rfl : x_6.toInt = _) (iL (0) (0) rfl) (fun c_9e c_9 => ?_) (fun c_9e c_9 => ?_)
    · refine zH_bd (tX4_save sS_34 h) (fun μ_10 p_11 => ?_)
      have h_12 : J w L M μ_10 := p_11
      refine zH_bd (tX10_raise sW_34 h_12) (fun μ_13 p_14 => ?_)
      have h_15 : J w L M μ_13 := p_14
      exact zH_some h_15
    · exact zH_some h
theorem tX11_down {w : Bool} {L : Int32} {M : gM} {a1 : Int32} {a2 : Int32} {μ : gM}  (h : J w L M μ)  : zH (fX11_down a1 a2 μ) (fun r => J w L M r.2) := by
  unfold fX11_down
  have q_1 : (0 : Int32).toInt = (0 : Int) := (iL (0) (0) rfl)
  refine zH_bd (tX1_isThere h.nb4) (fun x_2 p_3 => ?_)
  have q_4 : (x_2.toInt = 0 ∨ x_2.toInt = 1) ∧ (x_2.toInt = 1 → 0 ≤ (0 : Int32).toInt ∧ (0 : Int32).toInt ≤ 2 ∧ 0 ≤ a1.toInt ∧ a1.toInt < 8 ∧ ((0 : Int32).toInt = 0 → a1.toInt < 6) ∧ ((0 : Int32).toInt = 2 → a1.toInt < 5)) := p_3
  refine zH_eqc (rfl : x_2.toInt = _) (iL (0) (0) rfl) (fun c_5e c_5 => ?_) (fun c_5e c_5 => ?_)
  · exact zH_some h
  · refine zH_bd (tX9_isUp) (fun x_6 p_7 => ?_)
    have q_8 : x_6.toInt = 0 ∨ x_6.toInt = 1 := p_7
    refine zH_eqc (rfl : x_6.toInt = _) (iL (0) (0) rfl) (fun c_9e c_9 => ?_) (fun c_9e c_9 => ?_)
    · exact zH_some h
    · refine zH_bd (tX4_save sS_34 h) (fun μ_10 p_11 => ?_)
      have h_12 : J w L M μ_10 := p_11
      refine zH_bp (tX10_lower sW_34 h_12 (by omega) (by omega)) (fun x_13 μ_14 p_15 => ?_)
      have h_16 : J w L M μ_14 := p_15
      exact zH_some h_16
theorem tX11_cut {w : Bool} {L : Int32} {M : gM} {a1 : Int32} {a2 : Int32} {μ : gM}  (h : J w L M μ)  : zH (fX11_cut a1 a2 μ) (fun r => J w L M r.2) := by
  unfold fX11_cut
  have q_1 : (1 : Int32).toInt = (1 : Int) := (iL (1) (1) rfl)
  refine zH_bd (tX1_isThere h.nb4) (fun x_2 p_3 => ?_)
  have q_4 : (x_2.toInt = 0 ∨ x_2.toInt = 1) ∧ (x_2.toInt = 1 → 0 ≤ (1 : Int32).toInt ∧ (1 : Int32).toInt ≤ 2 ∧ 0 ≤ a1.toInt ∧ a1.toInt < 8 ∧ ((1 : Int32).toInt = 0 → a1.toInt < 6) ∧ ((1 : Int32).toInt = 2 → a1.toInt < 5)) := p_3
  refine zH_eqc (rfl : x_2.toInt = _) (iL (0) (0) rfl) (fun c_5e c_5 => ?_) (fun c_5e c_5 => ?_)
  · exact zH_some h
  · refine zH_bd (tX9_isCut) (fun x_6 p_7 => ?_)
    have q_8 : x_6.toInt = 0 ∨ x_6.toInt = 1 := p_7
    refine zH_eqc (rfl : a2.toInt = _) (rfl : x_6.toInt = _) (fun c_9e c_9 => ?_) (fun c_9e c_9 => ?_)
    · exact zH_some h
    · refine zH_bd (tX4_save sS_34 h) (fun μ_10 p_11 => ?_)
      have h_12 : J w L M μ_10 := p_11
      refine zH_bd (tX10_setCuts sW_34 h_12) (fun μ_13 p_14 => ?_)
      have h_15 : J w L M μ_13 := p_14
      exact zH_some h_15
theorem tX11_split {w : Bool} {L : Int32} {M : gM} {a1 : Int32} {μ : gM}  (h : J w L M μ)  : zH (fX11_split a1 μ) (fun r => J w L M r.2) := by
  unfold fX11_split
  refine zH_eqc (rfl : (μ 4 0).toInt = _) (iL (0) (0) rfl) (fun c_1e c_1 => ?_) (fun c_1e c_1 => ?_)
  · exact zH_some h
  · refine zH_bd (tX1_areGates) (fun x_2 p_3 => ?_)
    have q_4 : x_2.toInt = 0 ∨ x_2.toInt = 1 := p_3
    refine zH_eqc (rfl : x_2.toInt = _) (iL (0) (0) rfl) (fun c_5e c_5 => ?_) (fun c_5e c_5 => ?_)
    · exact zH_some h
    · refine zH_eqc (rfl : a1.toInt = _) (rfl : (μ 34 3).toInt = _) (fun c_6e c_6 => ?_) (fun c_6e c_6 => ?_)
      · exact zH_some h
      · refine zH_bd (tX4_save sS_34 h) (fun μ_7 p_8 => ?_)
        have h_9 : J w L M μ_7 := p_8
        refine zH_lt (fun μ_10 e_11 => ?_)
        have h_12 : J w L M μ_10 := by rw [e_11]; exact J.upf h_9 (a := 34) (k := (0, 9)) rfl (fx34 (by decide) (by decide)) (by decide) (by decide) (Or.inl (by decide)) rfl
        exact zH_some h_12
theorem tX11_word {w : Bool} {L : Int32} {M : gM} {a1 : Int32} {a2 : Int32} {a3 : Int32} {μ : gM}  (h : J w L M μ)  : zH (fX11_word a1 a2 a3 μ) (fun r => J w L M r.2) := by
  unfold fX11_word
  refine zH_bd (tX1_isMember h.nb4) (fun x_1 p_2 => ?_)
  have q_3 : (x_1.toInt = 0 ∨ x_1.toInt = 1) ∧ (x_1.toInt = 1 → 0 ≤ a1.toInt ∧ a1.toInt ≤ 4 ∧ 0 ≤ a2.toInt ∧ a2.toInt ≤ 5) := p_2
  refine zH_eqc (rfl : x_1.toInt = _) (iL (0) (0) rfl) (fun c_4e c_4 => ?_) (fun c_4e c_4 => ?_)
  · exact zH_some h
  · refine zH_ltc (rfl : a3.toInt = _) (iL (1) (1) rfl) (fun c_5 => ?_) (fun c_5 => ?_)
    · exact zH_some h
    · refine zH_lec (rfl : a3.toInt = _) (iL (255) (255) rfl) (fun c_6 => ?_) (fun c_6 => ?_)
      · refine zH_bd (tX4_save sS_34 h) (fun μ_7 p_8 => ?_)
        have h_9 : J w L M μ_7 := p_8
        refine zH_ck (zIn (iA (iM (rfl : a1.toInt = _) (iL (6) (6) rfl) (by omega) (by omega)) (rfl : a2.toInt = _) (by omega) (by omega)) (by omega) (by omega)) ?_
        refine zH_lt (fun x_10 e_11 => ?_)
        refine zH_bd (tX10_tell sW_34 h_9) (fun μ_12 p_13 => ?_)
        have h_14 : J w L M μ_12 := p_13
        exact zH_some h_14
      · exact zH_some h
theorem tX11_chance {w : Bool} {L : Int32} {M : gM} {a1 : Int32} {a2 : Int32} {μ : gM}  (h : J w L M μ)  : zH (fX11_chance a1 a2 μ) (fun r => J w L M r.2) := by
  unfold fX11_chance
  refine zH_eqc (rfl : (μ 4 0).toInt = _) (iL (0) (0) rfl) (fun c_1e c_1 => ?_) (fun c_1e c_1 => ?_)
  · exact zH_some h
  · refine zH_ltc (rfl : a1.toInt = _) (iL (0) (0) rfl) (fun c_2 => ?_) (fun c_2 => ?_)
    · exact zH_some h
    · refine zH_ltc (iL (99) (99) rfl) (rfl : a1.toInt = _) (fun c_3 => ?_) (fun c_3 => ?_)
      · exact zH_some h
      · refine zH_lec (iL (0) (0) rfl) (rfl : a2.toInt = _) (fun c_4 => ?_) (fun c_4 => ?_)
        · refine zH_bd (tX4_save sS_34 h) (fun μ_5 p_6 => ?_)
          have h_7 : J w L M μ_5 := p_6
          refine zH_lt (fun μ_8 e_9 => ?_)
          have h_10 : J w L M μ_8 := by rw [e_9]; exact J.upf h_7 (a := 34) (k := (0, 9)) rfl (fx34 (by decide) (by decide)) (by decide) (by decide) (Or.inl (by decide)) rfl
          refine zH_lt (fun μ_11 e_12 => ?_)
          have h_13 : J w L M μ_11 := by rw [e_12]; exact J.upf h_10 (a := 34) (k := (0, 9)) rfl (fx34 (by decide) (by decide)) (by decide) (by decide) (Or.inl (by decide)) rfl
          exact zH_some h_13
        · exact zH_some h
theorem tX11_isPair {w : Bool} {L : Int32} {M : gM} {a1 : Int32} {a2 : Int32} {μ : gM}  (h : J w L M μ)  : zH (fX11_isPair a1 a2 μ) (fun v => (v.toInt = 0 ∨ v.toInt = 1) ∧ (v.toInt = 1 → 0 ≤ a1.toInt ∧ a1.toInt ≤ 4 ∧ 0 ≤ a2.toInt ∧ a2.toInt ≤ 5)) := by
  unfold fX11_isPair
  refine zH_bd (tX1_isGroup h.nb4) (fun x_1 p_2 => ?_)
  have q_3 : (x_1.toInt = 0 ∨ x_1.toInt = 1) ∧ (x_1.toInt = 1 → 0 ≤ a1.toInt ∧ a1.toInt ≤ 4) := p_2
  refine zH_eqc (rfl : x_1.toInt = _) (iL (0) (0) rfl) (fun c_4e c_4 => ?_) (fun c_4e c_4 => ?_)
  · have q_5 : (0 : Int32).toInt = (0 : Int) := (iL (0) (0) rfl)
    exact zH_some (show ((0 : Int32).toInt = 0 ∨ (0 : Int32).toInt = 1) ∧ ((0 : Int32).toInt = 1 → 0 ≤ a1.toInt ∧ a1.toInt ≤ 4 ∧ 0 ≤ a2.toInt ∧ a2.toInt ≤ 5) from by have q_6 : (0 : Int32).toInt = (0 : Int) := (iL (0) (0) rfl); omega)
  · have q_7 : (0 : Int32).toInt = (0 : Int) := (iL (0) (0) rfl)
    refine zH_bd (tX1_isThere h.nb4) (fun x_8 p_9 => ?_)
    have q_10 : (x_8.toInt = 0 ∨ x_8.toInt = 1) ∧ (x_8.toInt = 1 → 0 ≤ (0 : Int32).toInt ∧ (0 : Int32).toInt ≤ 2 ∧ 0 ≤ a2.toInt ∧ a2.toInt < 8 ∧ ((0 : Int32).toInt = 0 → a2.toInt < 6) ∧ ((0 : Int32).toInt = 2 → a2.toInt < 5)) := p_9
    refine zH_eqc (rfl : x_8.toInt = _) (iL (0) (0) rfl) (fun c_11e c_11 => ?_) (fun c_11e c_11 => ?_)
    · exact zH_some (show ((0 : Int32).toInt = 0 ∨ (0 : Int32).toInt = 1) ∧ ((0 : Int32).toInt = 1 → 0 ≤ a1.toInt ∧ a1.toInt ≤ 4 ∧ 0 ≤ a2.toInt ∧ a2.toInt ≤ 5) from by have q_12 : (0 : Int32).toInt = (0 : Int) := (iL (0) (0) rfl); omega)
    · have q_13 : (1 : Int32).toInt = (1 : Int) := (iL (1) (1) rfl)
      exact zH_some (show ((1 : Int32).toInt = 0 ∨ (1 : Int32).toInt = 1) ∧ ((1 : Int32).toInt = 1 → 0 ≤ a1.toInt ∧ a1.toInt ≤ 4 ∧ 0 ≤ a2.toInt ∧ a2.toInt ≤ 5) from by have q_14 : (1 : Int32).toInt = (1 : Int) := (iL (1) (1) rfl); omega)
theorem tX11_holder {w : Bool} {L : Int32} {M : gM} {a1 : Int32} {a2 : Int32} {μ : gM}  (h : J w L M μ)  : zH (fX11_holder a1 a2 μ) (fun _ => True) := by
  unfold fX11_holder
  refine zH_bd (tX11_isPair h) (fun x_1 p_2 => ?_)
  have q_3 : (x_1.toInt = 0 ∨ x_1.toInt = 1) ∧ (x_1.toInt = 1 → 0 ≤ a1.toInt ∧ a1.toInt ≤ 4 ∧ 0 ≤ a2.toInt ∧ a2.toInt ≤ 5) := p_2
  refine zH_eqc (rfl : x_1.toInt = _) (iL (0) (0) rfl) (fun c_4e c_4 => ?_) (fun c_4e c_4 => ?_)
  · exact zH_some trivial
  · refine zH_bd (tX9_holderBeside (by omega) (by omega)) (fun x_5 p_6 => ?_)
    have q_7 : (-1 : Int) ≤ x_5.toInt ∧ x_5.toInt ≤ 5 := p_6
    exact zH_some trivial
theorem tX11_doubles_l16     : ∀ (n : Nat) (y1 : Int32) (y2 : Int32) (μ : gM), 0 ≤ y2.toInt → y2.toInt ≤ 5 → 5 - y2.toInt < (n : Int) → zH (fX11_doubles_l16  n y1 y2 μ) (fun _ => True) := by
  intro n
  induction n with
  | zero =>
    intro y1 y2 μ  g0 g1 gm
    exact absurd gm (by omega)
  | succ n ih =>
    intro y1 y2 μ  g0 g1 gm
    rw [fX11_doubles_l16]
    refine zH_lec (iL (5) (5) rfl) (rfl : y2.toInt = _) (fun c_1 => ?_) (fun c_1 => ?_)
    · exact zH_some trivial
    · refine zH_bd (tX9_isDouble (by omega) (by omega)) (fun x_2 p_3 => ?_)
      have q_4 : x_2.toInt = 0 ∨ x_2.toInt = 1 := p_3
      refine zH_eqc (rfl : x_2.toInt = _) (iL (0) (0) rfl) (fun c_5e c_5 => ?_) (fun c_5e c_5 => ?_)
      · refine zH_lt (fun x_6 e_7 => ?_)
        refine zH_lt (fun x_8 e_9 => ?_)
        have q_10 : x_8.toInt = (y2.toInt + (1 : Int)) := (congrArg Int32.toInt e_9).trans (iA (rfl : y2.toInt = _) (iL (1) (1) rfl) (by omega) (by omega))
        exact ih x_6 x_8 μ (by omega) (by omega) (by omega)
      · refine zH_lt (fun x_11 e_12 => ?_)
        refine zH_lt (fun x_13 e_14 => ?_)
        have q_15 : x_13.toInt = (y2.toInt + (1 : Int)) := (congrArg Int32.toInt e_14).trans (iA (rfl : y2.toInt = _) (iL (1) (1) rfl) (by omega) (by omega))
        exact ih x_11 x_13 μ (by omega) (by omega) (by omega)
theorem tX11_doubles {w : Bool} {L : Int32} {M : gM} {μ : gM}  (h : J w L M μ)  : zH (fX11_doubles μ) (fun _ => True) := by
  unfold fX11_doubles
  refine zH_eqc (rfl : (μ 4 0).toInt = _) (iL (0) (0) rfl) (fun c_1e c_1 => ?_) (fun c_1e c_1 => ?_)
  · exact zH_some trivial
  · have q_2 : (0 : Int32).toInt = (0 : Int) := (iL (0) (0) rfl)
    exact zH_mono (tX11_doubles_l16 100000 (0 : Int32) (0 : Int32) μ (by omega) (by omega) (by omega)) (fun _ _ => trivial)
theorem tX11_orphans_l16     : ∀ (n : Nat) (y1 : Int32) (y2 : Int32) (μ : gM), 0 ≤ y2.toInt → y2.toInt ≤ 5 → 5 - y2.toInt < (n : Int) → zH (fX11_orphans_l16  n y1 y2 μ) (fun _ => True) := by
  intro n
  induction n with
  | zero =>
    intro y1 y2 μ  g0 g1 gm
    exact absurd gm (by omega)
  | succ n ih =>
    intro y1 y2 μ  g0 g1 gm
    rw [fX11_orphans_l16]
    refine zH_lec (iL (5) (5) rfl) (rfl : y2.toInt = _) (fun c_1 => ?_) (fun c_1 => ?_)
    · exact zH_some trivial
    · refine zH_ck (zIn (rfl : y2.toInt = _) (by omega) (by omega)) ?_
      refine zH_eqc (rfl : (μ 39 (y2).toNatClampNeg).toInt = _) (iL (0) (0) rfl) (fun c_2e c_2 => ?_) (fun c_2e c_2 => ?_)
      · refine zH_ck (zIn (rfl : y2.toInt = _) (by omega) (by omega)) ?_
        refine zH_eqc (rfl : ((μ 11 (y2).toNatClampNeg) &&& (μ 34 1)).toInt = _) (iL (0) (0) rfl) (fun c_3e c_3 => ?_) (fun c_3e c_3 => ?_)
        · unfold fX11_orphans_n58
          refine zH_eqc (iL (0) (0) rfl) (iL (0) (0) rfl) (fun c_4e c_4 => ?_) (fun c_4e c_4 => ?_)
          · refine zH_lt (fun x_5 e_6 => ?_)
            refine zH_lt (fun x_7 e_8 => ?_)
            have q_9 : x_7.toInt = (y2.toInt + (1 : Int)) := (congrArg Int32.toInt e_8).trans (iA (rfl : y2.toInt = _) (iL (1) (1) rfl) (by omega) (by omega))
            exact ih x_5 x_7 μ (by omega) (by omega) (by omega)
          · refine zH_lt (fun x_10 e_11 => ?_)
            refine zH_lt (fun x_12 e_13 => ?_)
            have q_14 : x_12.toInt = (y2.toInt + (1 : Int)) := (congrArg Int32.toInt e_13).trans (iA (rfl : y2.toInt = _) (iL (1) (1) rfl) (by omega) (by omega))
            exact ih x_10 x_12 μ (by omega) (by omega) (by omega)
        · unfold fX11_orphans_n58
          refine zH_eqc (iL (1) (1) rfl) (iL (0) (0) rfl) (fun c_15e c_15 => ?_) (fun c_15e c_15 => ?_)
          · refine zH_lt (fun x_16 e_17 => ?_)
            refine zH_lt (fun x_18 e_19 => ?_)
            have q_20 : x_18.toInt = (y2.toInt + (1 : Int)) := (congrArg Int32.toInt e_19).trans (iA (rfl : y2.toInt = _) (iL (1) (1) rfl) (by omega) (by omega))
            exact ih x_16 x_18 μ (by omega) (by omega) (by omega)
          · refine zH_lt (fun x_21 e_22 => ?_)
            refine zH_lt (fun x_23 e_24 => ?_)
            have q_25 : x_23.toInt = (y2.toInt + (1 : Int)) := (congrArg Int32.toInt e_24).trans (iA (rfl : y2.toInt = _) (iL (1) (1) rfl) (by omega) (by omega))
            exact ih x_21 x_23 μ (by omega) (by omega) (by omega)
      · unfold fX11_orphans_n58
        refine zH_eqc (iL (0) (0) rfl) (iL (0) (0) rfl) (fun c_26e c_26 => ?_) (fun c_26e c_26 => ?_)
        · refine zH_lt (fun x_27 e_28 => ?_)
          refine zH_lt (fun x_29 e_30 => ?_)
          have q_31 : x_29.toInt = (y2.toInt + (1 : Int)) := (congrArg Int32.toInt e_30).trans (iA (rfl : y2.toInt = _) (iL (1) (1) rfl) (by omega) (by omega))
          exact ih x_27 x_29 μ (by omega) (by omega) (by omega)
        · refine zH_lt (fun x_32 e_33 => ?_)
          refine zH_lt (fun x_34 e_35 => ?_)
          have q_36 : x_34.toInt = (y2.toInt + (1 : Int)) := (congrArg Int32.toInt e_35).trans (iA (rfl : y2.toInt = _) (iL (1) (1) rfl) (by omega) (by omega))
          exact ih x_32 x_34 μ (by omega) (by omega) (by omega)
theorem tX11_orphans {w : Bool} {L : Int32} {M : gM} {μ : gM}  (h : J w L M μ)  : zH (fX11_orphans μ) (fun _ => True) := by
  unfold fX11_orphans
  refine zH_eqc (rfl : (μ 4 0).toInt = _) (iL (0) (0) rfl) (fun c_1e c_1 => ?_) (fun c_1e c_1 => ?_)
  · exact zH_some trivial
  · have q_2 : (0 : Int32).toInt = (0 : Int) := (iL (0) (0) rfl)
    exact zH_mono (tX11_orphans_l16 100000 (0 : Int32) (0 : Int32) μ (by omega) (by omega) (by omega)) (fun _ _ => trivial)
theorem tX11_holds_l18     : ∀ (n : Nat) (y1 : Int32) (y2 : Int32) (y3 : Int32) (μ : gM), 0 ≤ y3.toInt → y3.toInt ≤ 5 → 5 - y3.toInt < (n : Int) → zH (fX11_holds_l18  n y1 y2 y3 μ) (fun _ => True) := by
  intro n
  induction n with
  | zero =>
    intro y1 y2 y3 μ  g0 g1 gm
    exact absurd gm (by omega)
  | succ n ih =>
    intro y1 y2 y3 μ  g0 g1 gm
    rw [fX11_holds_l18]
    refine zH_lec (iL (5) (5) rfl) (rfl : y3.toInt = _) (fun c_1 => ?_) (fun c_1 => ?_)
    · exact zH_some trivial
    · refine zH_ck (zIn (rfl : y3.toInt = _) (by omega) (by omega)) ?_
      refine zH_lt (fun x_2 e_3 => ?_)
      refine zH_lt (fun x_4 e_5 => ?_)
      have q_6 : x_4.toInt = (y3.toInt + (1 : Int)) := (congrArg Int32.toInt e_5).trans (iA (rfl : y3.toInt = _) (iL (1) (1) rfl) (by omega) (by omega))
      exact ih y1 x_2 x_4 μ (by omega) (by omega) (by omega)
theorem tX11_holds {w : Bool} {L : Int32} {M : gM} {a1 : Int32} {μ : gM}  (h : J w L M μ)  : zH (fX11_holds a1 μ) (fun _ => True) := by
  unfold fX11_holds
  have q_1 : (0 : Int32).toInt = (0 : Int) := (iL (0) (0) rfl)
  refine zH_bd (tX1_isThere h.nb4) (fun x_2 p_3 => ?_)
  have q_4 : (x_2.toInt = 0 ∨ x_2.toInt = 1) ∧ (x_2.toInt = 1 → 0 ≤ (0 : Int32).toInt ∧ (0 : Int32).toInt ≤ 2 ∧ 0 ≤ a1.toInt ∧ a1.toInt < 8 ∧ ((0 : Int32).toInt = 0 → a1.toInt < 6) ∧ ((0 : Int32).toInt = 2 → a1.toInt < 5)) := p_3
  refine zH_eqc (rfl : x_2.toInt = _) (iL (0) (0) rfl) (fun c_5e c_5 => ?_) (fun c_5e c_5 => ?_)
  · exact zH_some trivial
  · exact zH_mono (tX11_holds_l18 100000 a1 (0 : Int32) (0 : Int32) μ (by omega) (by omega) (by omega)) (fun _ _ => trivial)
theorem tX11_slot {w : Bool} {L : Int32} {M : gM} {a1 : Int32} {a2 : Int32} {a3 : Int32} {μ : gM}  (h : J w L M μ)  : zH (fX11_slot a1 a2 a3 μ) (fun r => J w L M r.2) := by
  unfold fX11_slot
  refine zH_bd (tX11_isPair h) (fun x_1 p_2 => ?_)
  have q_3 : (x_1.toInt = 0 ∨ x_1.toInt = 1) ∧ (x_1.toInt = 1 → 0 ≤ a1.toInt ∧ a1.toInt ≤ 4 ∧ 0 ≤ a2.toInt ∧ a2.toInt ≤ 5) := p_2
  refine zH_eqc (rfl : x_1.toInt = _) (iL (0) (0) rfl) (fun c_4e c_4 => ?_) (fun c_4e c_4 => ?_)
  · exact zH_some h
  · refine zH_ltc (rfl : a3.toInt = _) (iL (0) (0) rfl) (fun c_5 => ?_) (fun c_5 => ?_)
    · exact zH_some h
    · refine zH_ck (zIn (rfl : a1.toInt = _) (by omega) (by omega)) ?_
      refine zH_ltc (rfl : a3.toInt = _) (rfl : (μ 10 (a1).toNatClampNeg).toInt = _) (fun c_6 => ?_) (fun c_6 => ?_)
      · refine zH_bd (tX8_lay h (by omega) (by omega)) (fun μ_7 p_8 => ?_)
        have h_9 : J w L M μ_7 := p_8.1
        have q_10 : (μ_7 10 a1.toNatClampNeg).toInt = (μ 10 a1.toNatClampNeg).toInt := p_8.2
        refine zH_bd (tX8_ownerOf) (fun x_11 p_12 => ?_)
        exact zH_some h_9
      · exact zH_some h
theorem tX11_slots {w : Bool} {L : Int32} {M : gM} {a1 : Int32} {a2 : Int32} {μ : gM}  (h : J w L M μ)  : zH (fX11_slots a1 a2 μ) (fun r => J w L M r.2) := by
  unfold fX11_slots
  refine zH_bd (tX11_isPair h) (fun x_1 p_2 => ?_)
  have q_3 : (x_1.toInt = 0 ∨ x_1.toInt = 1) ∧ (x_1.toInt = 1 → 0 ≤ a1.toInt ∧ a1.toInt ≤ 4 ∧ 0 ≤ a2.toInt ∧ a2.toInt ≤ 5) := p_2
  refine zH_eqc (rfl : x_1.toInt = _) (iL (0) (0) rfl) (fun c_4e c_4 => ?_) (fun c_4e c_4 => ?_)
  · exact zH_some h
  · refine zH_bd (tX8_lay h (by omega) (by omega)) (fun μ_5 p_6 => ?_)
    have h_7 : J w L M μ_5 := p_6.1
    have q_8 : (μ_5 10 a1.toNatClampNeg).toInt = (μ 10 a1.toNatClampNeg).toInt := p_6.2
    refine zH_ck (zIn (rfl : a2.toInt = _) (by omega) (by omega)) ?_
    exact zH_some h_7
theorem tX11_host {w : Bool} {L : Int32} {M : gM} {a1 : Int32} {a2 : Int32} {a3 : Int32} {μ : gM}  (h : J w L M μ)  : zH (fX11_host a1 a2 a3 μ) (fun r => J w L M r.2) := by
  unfold fX11_host
  refine zH_bd (tX11_isPair h) (fun x_1 p_2 => ?_)
  have q_3 : (x_1.toInt = 0 ∨ x_1.toInt = 1) ∧ (x_1.toInt = 1 → 0 ≤ a1.toInt ∧ a1.toInt ≤ 4 ∧ 0 ≤ a2.toInt ∧ a2.toInt ≤ 5) := p_2
  refine zH_eqc (rfl : x_1.toInt = _) (iL (0) (0) rfl) (fun c_4e c_4 => ?_) (fun c_4e c_4 => ?_)
  · exact zH_some h
  · refine zH_ltc (rfl : a3.toInt = _) (iL (0) (0) rfl) (fun c_5 => ?_) (fun c_5 => ?_)
    · exact zH_some h
    · refine zH_ck (zIn (rfl : a1.toInt = _) (by omega) (by omega)) ?_
      refine zH_lec (iL (1) (1) rfl) (rfl : (μ 10 (a1).toNatClampNeg).toInt = _) (fun c_6 => ?_) (fun c_6 => ?_)
      · refine zH_bd (tX8_lay h (by omega) (by omega)) (fun μ_7 p_8 => ?_)
        have h_9 : J w L M μ_7 := p_8.1
        have q_10 : (μ_7 10 a1.toNatClampNeg).toInt = (μ 10 a1.toNatClampNeg).toInt := p_8.2
        refine zH_ck (zIn (rfl : a1.toInt = _) (by omega) (by omega)) ?_
        refine zH_ck (zNz (by omega)) ?_
        refine zH_bd (tX8_ownerOf) (fun x_11 p_12 => ?_)
        exact zH_some h_9
      · exact zH_some h
theorem tX11_load {w : Bool} {L : Int32} {M : gM} {a1 : Int32} {a2 : Int32} {a3 : Int32} {μ : gM}  (h : J w L M μ)  : zH (fX11_load a1 a2 a3 μ) (fun r => J w L M r.2) := by
  unfold fX11_load
  refine zH_bd (tX11_isPair h) (fun x_1 p_2 => ?_)
  have q_3 : (x_1.toInt = 0 ∨ x_1.toInt = 1) ∧ (x_1.toInt = 1 → 0 ≤ a1.toInt ∧ a1.toInt ≤ 4 ∧ 0 ≤ a2.toInt ∧ a2.toInt ≤ 5) := p_2
  refine zH_eqc (rfl : x_1.toInt = _) (iL (0) (0) rfl) (fun c_4e c_4 => ?_) (fun c_4e c_4 => ?_)
  · exact zH_some h
  · refine zH_ltc (rfl : a3.toInt = _) (iL (1) (1) rfl) (fun c_5 => ?_) (fun c_5 => ?_)
    · exact zH_some h
    · refine zH_lec (rfl : a3.toInt = _) (iL (9999) (9999) rfl) (fun c_6 => ?_) (fun c_6 => ?_)
      · refine zH_bd (tX8_lay h (by omega) (by omega)) (fun μ_7 p_8 => ?_)
        have h_9 : J w L M μ_7 := p_8.1
        have q_10 : (μ_7 10 a1.toNatClampNeg).toInt = (μ 10 a1.toNatClampNeg).toInt := p_8.2
        refine zH_bd (tX8_countHosts (by omega) (by omega)) (fun x_11 p_12 => ?_)
        exact zH_some h_9
      · exact zH_some h
theorem tX11_isWithin  {a1 : Int32} {μ : gM}    : zH (fX11_isWithin a1 μ) (fun v => v.toInt = 0 ∨ v.toInt = 1) := by
  unfold fX11_isWithin
  refine zH_ltc (iL (9999) (9999) rfl) (rfl : ((μ 34 0) + a1).toInt = _) (fun c_1 => ?_) (fun c_1 => ?_)
  · have q_2 : (0 : Int32).toInt = (0 : Int) := (iL (0) (0) rfl)
    exact zH_some (show (0 : Int32).toInt = 0 ∨ (0 : Int32).toInt = 1 from by have q_3 : (0 : Int32).toInt = (0 : Int) := (iL (0) (0) rfl); omega)
  · have q_4 : (1 : Int32).toInt = (1 : Int) := (iL (1) (1) rfl)
    exact zH_some (show (1 : Int32).toInt = 0 ∨ (1 : Int32).toInt = 1 from by have q_5 : (1 : Int32).toInt = (1 : Int) := (iL (1) (1) rfl); omega)
theorem tX11_ahead {w : Bool} {L : Int32} {M : gM} {a1 : Int32} {a2 : Int32} {μ : gM}  (h : J w L M μ)  : zH (fX11_ahead a1 a2 μ) (fun r => J w L M r.2) := by
  unfold fX11_ahead
  refine zH_bd (tX1_isGroup h.nb4) (fun x_1 p_2 => ?_)
  have q_3 : (x_1.toInt = 0 ∨ x_1.toInt = 1) ∧ (x_1.toInt = 1 → 0 ≤ a1.toInt ∧ a1.toInt ≤ 4) := p_2
  refine zH_eqc (rfl : x_1.toInt = _) (iL (0) (0) rfl) (fun c_4e c_4 => ?_) (fun c_4e c_4 => ?_)
  · unfold fX11_ahead_n35
    refine zH_eqc (iL (0) (0) rfl) (iL (0) (0) rfl) (fun c_5e c_5 => ?_) (fun c_5e c_5 => ?_)
    · exact zH_some h
    · refine zH_bp (tX3_heldIn h (by omega) (by omega) (by omega)) (fun x_6 μ_7 p_8 => ?_)
      have h_9 : J w L M μ_7 := p_8
      exact zH_some h_9
  · refine zH_ltc (rfl : a2.toInt = _) (iL (0) (0) rfl) (fun c_10 => ?_) (fun c_10 => ?_)
    · unfold fX11_ahead_n35
      refine zH_eqc (iL (0) (0) rfl) (iL (0) (0) rfl) (fun c_11e c_11 => ?_) (fun c_11e c_11 => ?_)
      · exact zH_some h
      · refine zH_bp (tX3_heldIn h (by omega) (by omega) (by omega)) (fun x_12 μ_13 p_14 => ?_)
        have h_15 : J w L M μ_13 := p_14
        exact zH_some h_15
    · refine zH_ltc (iL (500) (500) rfl) (rfl : a2.toInt = _) (fun c_16 => ?_) (fun c_16 => ?_)
      · unfold fX11_ahead_n35
        refine zH_eqc (iL (0) (0) rfl) (iL (0) (0) rfl) (fun c_17e c_17 => ?_) (fun c_17e c_17 => ?_)
        · exact zH_some h
        · refine zH_bp (tX3_heldIn h (by omega) (by omega) (by omega)) (fun x_18 μ_19 p_20 => ?_)
          have h_21 : J w L M μ_19 := p_20
          exact zH_some h_21
      · refine zH_bd (tX11_isWithin) (fun x_22 p_23 => ?_)
        have q_24 : x_22.toInt = 0 ∨ x_22.toInt = 1 := p_23
        refine zH_eqc (rfl : x_22.toInt = _) (iL (0) (0) rfl) (fun c_25e c_25 => ?_) (fun c_25e c_25 => ?_)
        · unfold fX11_ahead_n35
          refine zH_eqc (iL (0) (0) rfl) (iL (0) (0) rfl) (fun c_26e c_26 => ?_) (fun c_26e c_26 => ?_)
          · exact zH_some h
          · refine zH_bp (tX3_heldIn h (by omega) (by omega) (by omega)) (fun x_27 μ_28 p_29 => ?_)
            have h_30 : J w L M μ_28 := p_29
            exact zH_some h_30
        · unfold fX11_ahead_n35
          refine zH_eqc (iL (1) (1) rfl) (iL (0) (0) rfl) (fun c_31e c_31 => ?_) (fun c_31e c_31 => ?_)
          · exact zH_some h
          · refine zH_bp (tX3_heldIn h (by omega) (by omega) (by omega)) (fun x_32 μ_33 p_34 => ?_)
            have h_35 : J w L M μ_33 := p_34
            exact zH_some h_35
theorem tX11_fails {w : Bool} {L : Int32} {M : gM} {a1 : Int32} {a2 : Int32} {a3 : Int32} {μ : gM}  (h : J w L M μ)  : zH (fX11_fails a1 a2 a3 μ) (fun r => J w L M r.2) := by
  unfold fX11_fails
  refine zH_bd (tX11_isPair h) (fun x_1 p_2 => ?_)
  have q_3 : (x_1.toInt = 0 ∨ x_1.toInt = 1) ∧ (x_1.toInt = 1 → 0 ≤ a1.toInt ∧ a1.toInt ≤ 4 ∧ 0 ≤ a2.toInt ∧ a2.toInt ≤ 5) := p_2
  refine zH_eqc (rfl : x_1.toInt = _) (iL (0) (0) rfl) (fun c_4e c_4 => ?_) (fun c_4e c_4 => ?_)
  · exact zH_some h
  · refine zH_bd (tX9_isUp) (fun x_5 p_6 => ?_)
    have q_7 : x_5.toInt = 0 ∨ x_5.toInt = 1 := p_6
    refine zH_eqc (rfl : x_5.toInt = _) (iL (0) (0) rfl) (fun c_8e c_8 => ?_) (fun c_8e c_8 => ?_)
    · exact zH_some h
    · refine zH_ltc (rfl : a3.toInt = _) (iL (0) (0) rfl) (fun c_9 => ?_) (fun c_9 => ?_)
      · exact zH_some h
      · refine zH_lec (rfl : a3.toInt = _) (iL (1) (1) rfl) (fun c_10 => ?_) (fun c_10 => ?_)
        · refine zH_bp (tX3_takenBehind h (by omega) (by omega) (by omega) (by omega)) (fun x_11 μ_12 p_13 => ?_)
          have h_14 : J w L M μ_12 := p_13
          refine zH_eqc (rfl : a3.toInt = _) (iL (0) (0) rfl) (fun c_15e c_15 => ?_) (fun c_15e c_15 => ?_)
          · exact zH_some h_14
          · refine zH_bd (tX3_otherHolder (by omega) (by omega)) (fun x_16 p_17 => ?_)
            have q_18 : (-1 : Int) ≤ x_16.toInt ∧ x_16.toInt ≤ 5 := p_17
            exact zH_some h_14
        · exact zH_some h
theorem tX11_worst_l49 {w : Bool} {L : Int32} {M : gM}    : ∀ (n : Nat) (y1 : Int32) (y2 : Int32) (y3 : Int32) (y4 : Int32) (y5 : Int32) (y6 : Int32) (μ : gM), J w L M μ → 0 ≤ y1.toInt → y1.toInt ≤ 4 → 0 ≤ y6.toInt → y6.toInt ≤ 6 → 6 - y6.toInt < (n : Int) → zH (fX11_worst_l49  n y1 y2 y3 y4 y5 y6 μ) (fun r => J w L M r.2) := by
  intro n
  induction n with
  | zero =>
    intro y1 y2 y3 y4 y5 y6 μ  h g0 g1 g2 g3 gm
    exact absurd gm (by omega)
  | succ n ih =>
    intro y1 y2 y3 y4 y5 y6 μ  h g0 g1 g2 g3 gm
    rw [fX11_worst_l49]
    refine zH_lec (iL (6) (6) rfl) (rfl : y6.toInt = _) (fun c_1 => ?_) (fun c_1 => ?_)
    · refine zH_eqc (rfl : y2.toInt = _) (iL (0) (0) rfl) (fun c_2e c_2 => ?_) (fun c_2e c_2 => ?_)
      · exact zH_some h
      · exact zH_some h
    · refine zH_eqc (rfl : ((y5 >>> (y6 &&& 31)) &&& (1 : Int32)).toInt = _) (iL (0) (0) rfl) (fun c_3e c_3 => ?_) (fun c_3e c_3 => ?_)
      · refine zH_lt (fun x_4 e_5 => ?_)
        have q_6 : x_4.toInt = (y6.toInt + (1 : Int)) := (congrArg Int32.toInt e_5).trans (iA (rfl : y6.toInt = _) (iL (1) (1) rfl) (by omega) (by omega))
        exact ih y1 y2 y3 y4 y5 x_4 μ h (by omega) (by omega) (by omega) (by omega) (by omega)
      · refine zH_bp (tX3_takenBehind h (by omega) (by omega) (by omega) (by omega)) (fun x_7 μ_8 p_9 => ?_)
        have h_10 : J w L M μ_8 := p_9
        refine zH_eqc (rfl : x_7.toInt = _) (iL (-1) (-1) rfl) (fun c_11e c_11 => ?_) (fun c_11e c_11 => ?_)
        · refine zH_eqc (rfl : y2.toInt = _) (iL (0) (0) rfl) (fun c_12e c_12 => ?_) (fun c_12e c_12 => ?_)
          · exact zH_some h_10
          · exact zH_some h_10
        · refine zH_lec (rfl : x_7.toInt = _) (rfl : y3.toInt = _) (fun c_13 => ?_) (fun c_13 => ?_)
          · refine zH_lt (fun x_14 e_15 => ?_)
            have q_16 : x_14.toInt = (y6.toInt + (1 : Int)) := (congrArg Int32.toInt e_15).trans (iA (rfl : y6.toInt = _) (iL (1) (1) rfl) (by omega) (by omega))
            exact ih y1 y2 y3 y4 y5 x_14 μ_8 h_10 (by omega) (by omega) (by omega) (by omega) (by omega)
          · refine zH_lt (fun x_17 e_18 => ?_)
            have q_19 : x_17.toInt = (y6.toInt + (1 : Int)) := (congrArg Int32.toInt e_18).trans (iA (rfl : y6.toInt = _) (iL (1) (1) rfl) (by omega) (by omega))
            exact ih y1 y2 x_7 y6 y5 x_17 μ_8 h_10 (by omega) (by omega) (by omega) (by omega) (by omega)
theorem tX11_worst {w : Bool} {L : Int32} {M : gM} {a1 : Int32} {a2 : Int32} {μ : gM}  (h : J w L M μ)  : zH (fX11_worst a1 a2 μ) (fun r => J w L M r.2) := by
  unfold fX11_worst
  refine zH_bd (tX1_isGroup h.nb4) (fun x_1 p_2 => ?_)
  have q_3 : (x_1.toInt = 0 ∨ x_1.toInt = 1) ∧ (x_1.toInt = 1 → 0 ≤ a1.toInt ∧ a1.toInt ≤ 4) := p_2
  refine zH_eqc (rfl : x_1.toInt = _) (iL (0) (0) rfl) (fun c_4e c_4 => ?_) (fun c_4e c_4 => ?_)
  · exact zH_some h
  · refine zH_ltc (rfl : a2.toInt = _) (iL (0) (0) rfl) (fun c_5 => ?_) (fun c_5 => ?_)
    · exact zH_some h
    · refine zH_lec (rfl : a2.toInt = _) (iL (1) (1) rfl) (fun c_6 => ?_) (fun c_6 => ?_)
      · refine zH_ck (zIn (rfl : a1.toInt = _) (by omega) (by omega)) ?_
        refine zH_lt (fun x_7 e_8 => ?_)
        have q_9 : (-1 : Int32).toInt = (-1 : Int) := (iL (-1) (-1) rfl)
        have q_10 : (0 : Int32).toInt = (0 : Int) := (iL (0) (0) rfl)
        exact zH_mono (tX11_worst_l49 100000 a1 a2 (-1 : Int32) (-1 : Int32) x_7 (0 : Int32) μ h (by omega) (by omega) (by omega) (by omega) (by omega)) (fun r_12 p_11 => p_11)
      · exact zH_some h
theorem tX11_settles {w : Bool} {L : Int32} {M : gM} {μ : gM}  (h : J w L M μ)  : zH (fX11_settles μ) (fun r => J w L M r.2) := by
  unfold fX11_settles
  refine zH_eqc (rfl : (μ 4 0).toInt = _) (iL (0) (0) rfl) (fun c_1e c_1 => ?_) (fun c_1e c_1 => ?_)
  · exact zH_some h
  · have q_2 : (600 : Int32).toInt = (600 : Int) := (iL (600) (600) rfl)
    refine zH_bd (tX11_isWithin) (fun x_3 p_4 => ?_)
    have q_5 : x_3.toInt = 0 ∨ x_3.toInt = 1 := p_4
    refine zH_eqc (rfl : x_3.toInt = _) (iL (0) (0) rfl) (fun c_6e c_6 => ?_) (fun c_6e c_6 => ?_)
    · exact zH_some h
    · refine zH_bp (tX3_calmFrom h) (fun x_7 μ_8 p_9 => ?_)
      have h_10 : J w L M μ_8 := p_9
      exact zH_some h_10
theorem tX11_least {w : Bool} {L : Int32} {M : gM} {a1 : Int32} {a2 : Int32} {μ : gM}  (h : J w L M μ)  : zH (fX11_least a1 a2 μ) (fun r => J w L M r.2) := by
  unfold fX11_least
  refine zH_bd (tX1_isMember h.nb4) (fun x_1 p_2 => ?_)
  have q_3 : (x_1.toInt = 0 ∨ x_1.toInt = 1) ∧ (x_1.toInt = 1 → 0 ≤ a1.toInt ∧ a1.toInt ≤ 4 ∧ 0 ≤ a2.toInt ∧ a2.toInt ≤ 5) := p_2
  refine zH_eqc (rfl : x_1.toInt = _) (iL (0) (0) rfl) (fun c_4e c_4 => ?_) (fun c_4e c_4 => ?_)
  · exact zH_some h
  · have q_5 : (300 : Int32).toInt = (300 : Int) := (iL (300) (300) rfl)
    refine zH_bd (tX11_isWithin) (fun x_6 p_7 => ?_)
    have q_8 : x_6.toInt = 0 ∨ x_6.toInt = 1 := p_7
    refine zH_eqc (rfl : x_6.toInt = _) (iL (0) (0) rfl) (fun c_9e c_9 => ?_) (fun c_9e c_9 => ?_)
    · exact zH_some h
    · refine zH_bp (tX3_leastWord h (by omega) (by omega)) (fun x_10 μ_11 p_12 => ?_)
      have h_13 : J w L M μ_11 := p_12
      exact zH_some h_13
theorem tX11_isSpan  {a1 : Int32} {μ : gM}    : zH (fX11_isSpan a1 μ) (fun v => (v.toInt = 0 ∨ v.toInt = 1) ∧ (v.toInt = 1 → a1.toInt ≤ 500)) := by
  unfold fX11_isSpan
  refine zH_ltc (rfl : a1.toInt = _) (iL (1) (1) rfl) (fun c_1 => ?_) (fun c_1 => ?_)
  · have q_2 : (0 : Int32).toInt = (0 : Int) := (iL (0) (0) rfl)
    exact zH_some (show ((0 : Int32).toInt = 0 ∨ (0 : Int32).toInt = 1) ∧ ((0 : Int32).toInt = 1 → a1.toInt ≤ 500) from by have q_3 : (0 : Int32).toInt = (0 : Int) := (iL (0) (0) rfl); omega)
  · refine zH_ltc (iL (500) (500) rfl) (rfl : a1.toInt = _) (fun c_4 => ?_) (fun c_4 => ?_)
    · have q_5 : (0 : Int32).toInt = (0 : Int) := (iL (0) (0) rfl)
      exact zH_some (show ((0 : Int32).toInt = 0 ∨ (0 : Int32).toInt = 1) ∧ ((0 : Int32).toInt = 1 → a1.toInt ≤ 500) from by have q_6 : (0 : Int32).toInt = (0 : Int) := (iL (0) (0) rfl); omega)
    · refine zH_bd (tX11_isWithin) (fun x_7 p_8 => ?_)
      have q_9 : x_7.toInt = 0 ∨ x_7.toInt = 1 := p_8
      refine zH_eqc (rfl : x_7.toInt = _) (iL (0) (0) rfl) (fun c_10e c_10 => ?_) (fun c_10e c_10 => ?_)
      · have q_11 : (0 : Int32).toInt = (0 : Int) := (iL (0) (0) rfl)
        exact zH_some (show ((0 : Int32).toInt = 0 ∨ (0 : Int32).toInt = 1) ∧ ((0 : Int32).toInt = 1 → a1.toInt ≤ 500) from by have q_12 : (0 : Int32).toInt = (0 : Int) := (iL (0) (0) rfl); omega)
      · have q_13 : (1 : Int32).toInt = (1 : Int) := (iL (1) (1) rfl)
        exact zH_some (show ((1 : Int32).toInt = 0 ∨ (1 : Int32).toInt = 1) ∧ ((1 : Int32).toInt = 1 → a1.toInt ≤ 500) from by have q_14 : (1 : Int32).toInt = (1 : Int) := (iL (1) (1) rfl); omega)
theorem tX11_flaps {w : Bool} {L : Int32} {M : gM} {a1 : Int32} {a2 : Int32} {μ : gM}  (h : J w L M μ)  : zH (fX11_flaps a1 a2 μ) (fun r => J w L M r.2) := by
  unfold fX11_flaps
  refine zH_bd (tX1_isGroup h.nb4) (fun x_1 p_2 => ?_)
  have q_3 : (x_1.toInt = 0 ∨ x_1.toInt = 1) ∧ (x_1.toInt = 1 → 0 ≤ a1.toInt ∧ a1.toInt ≤ 4) := p_2
  refine zH_eqc (rfl : x_1.toInt = _) (iL (0) (0) rfl) (fun c_4e c_4 => ?_) (fun c_4e c_4 => ?_)
  · exact zH_some h
  · refine zH_bd (tX11_isSpan) (fun x_5 p_6 => ?_)
    have q_7 : (x_5.toInt = 0 ∨ x_5.toInt = 1) ∧ (x_5.toInt = 1 → a2.toInt ≤ 500) := p_6
    refine zH_eqc (rfl : x_5.toInt = _) (iL (0) (0) rfl) (fun c_8e c_8 => ?_) (fun c_8e c_8 => ?_)
    · exact zH_some h
    · refine zH_bp (tX3_takesIn h (by omega) (by omega) (by omega)) (fun x_9 μ_10 p_11 => ?_)
      have h_12 : J w L M μ_10 := p_11
      exact zH_some h_12
theorem tX11_needs_l44 {w : Bool} {L : Int32} {M : gM}    : ∀ (n : Nat) (y1 : Int32) (y2 : Int32) (y3 : Int32) (y4 : Int32) (y5 : Int32) (μ : gM), J w L M μ → 0 ≤ y1.toInt → y1.toInt ≤ 4 → 0 ≤ y5.toInt → y5.toInt ≤ 8 → 8 - y5.toInt < (n : Int) → zH (fX11_needs_l44  n y1 y2 y3 y4 y5 μ) (fun r => J w L M r.2) := by
  intro n
  induction n with
  | zero =>
    intro y1 y2 y3 y4 y5 μ  h g0 g1 g2 g3 gm
    exact absurd gm (by omega)
  | succ n ih =>
    intro y1 y2 y3 y4 y5 μ  h g0 g1 g2 g3 gm
    rw [fX11_needs_l44]
    have f_2 : (0 : Int) ≤ (μ 5 1).toInt ∧ (μ 5 1).toInt ≤ 8 := h.rd (a := 5) rfl (by decide) 1
    refine zH_lec (rfl : (μ 5 1).toInt = _) (rfl : y5.toInt = _) (fun c_1 => ?_) (fun c_1 => ?_)
    · exact zH_some h
    · refine zH_lt (fun x_3 e_4 => ?_)
      refine zH_eqc (rfl : x_3.toInt = _) (rfl : (μ 34 2).toInt = _) (fun c_5e c_5 => ?_) (fun c_5e c_5 => ?_)
      · refine zH_lt (fun x_6 e_7 => ?_)
        have q_8 : x_6.toInt = (y5.toInt + (1 : Int)) := (congrArg Int32.toInt e_7).trans (iA (rfl : y5.toInt = _) (iL (1) (1) rfl) (by omega) (by omega))
        exact ih y1 y2 y3 y4 x_6 μ h (by omega) (by omega) (by omega) (by omega) (by omega)
      · refine zH_bp (tX3_holderWithCuts h (by omega) (by omega)) (fun x_9 μ_10 p_11 => ?_)
        have h_12 : J w L M μ_10 := p_11
        refine zH_eqc (rfl : x_9.toInt = _) (rfl : y3.toInt = _) (fun c_13e c_13 => ?_) (fun c_13e c_13 => ?_)
        · refine zH_lt (fun x_14 e_15 => ?_)
          have q_16 : x_14.toInt = (y5.toInt + (1 : Int)) := (congrArg Int32.toInt e_15).trans (iA (rfl : y5.toInt = _) (iL (1) (1) rfl) (by omega) (by omega))
          exact ih y1 y2 y3 y4 x_14 μ_10 h_12 (by omega) (by omega) (by omega) (by omega) (by omega)
        · refine zH_lt (fun x_17 e_18 => ?_)
          refine zH_lt (fun x_19 e_20 => ?_)
          have q_21 : x_19.toInt = (y5.toInt + (1 : Int)) := (congrArg Int32.toInt e_20).trans (iA (rfl : y5.toInt = _) (iL (1) (1) rfl) (by omega) (by omega))
          exact ih y1 y2 y3 x_17 x_19 μ_10 h_12 (by omega) (by omega) (by omega) (by omega) (by omega)
theorem tX11_needs {w : Bool} {L : Int32} {M : gM} {a1 : Int32} {a2 : Int32} {μ : gM}  (h : J w L M μ)  : zH (fX11_needs a1 a2 μ) (fun r => J w L M r.2) := by
  unfold fX11_needs
  refine zH_bd (tX11_isPair h) (fun x_1 p_2 => ?_)
  have q_3 : (x_1.toInt = 0 ∨ x_1.toInt = 1) ∧ (x_1.toInt = 1 → 0 ≤ a1.toInt ∧ a1.toInt ≤ 4 ∧ 0 ≤ a2.toInt ∧ a2.toInt ≤ 5) := p_2
  refine zH_eqc (rfl : x_1.toInt = _) (iL (0) (0) rfl) (fun c_4e c_4 => ?_) (fun c_4e c_4 => ?_)
  · exact zH_some h
  · have q_5 : (300 : Int32).toInt = (300 : Int) := (iL (300) (300) rfl)
    refine zH_bd (tX11_isWithin) (fun x_6 p_7 => ?_)
    have q_8 : x_6.toInt = 0 ∨ x_6.toInt = 1 := p_7
    refine zH_eqc (rfl : x_6.toInt = _) (iL (0) (0) rfl) (fun c_9e c_9 => ?_) (fun c_9e c_9 => ?_)
    · exact zH_some h
    · refine zH_bp (tX3_holderWithCuts h (by omega) (by omega)) (fun x_10 μ_11 p_12 => ?_)
      have h_13 : J w L M μ_11 := p_12
      have q_14 : (0 : Int32).toInt = (0 : Int) := (iL (0) (0) rfl)
      exact zH_mono (tX11_needs_l44 100000 a1 a2 x_10 (0 : Int32) (0 : Int32) μ_11 h_13 (by omega) (by omega) (by omega) (by omega) (by omega)) (fun r_16 p_15 => p_15)
theorem tX11_letters {w : Bool} {L : Int32} {M : gM} {a1 : Int32} {μ : gM}  (h : J w L M μ)  : zH (fX11_letters a1 μ) (fun r => J w L M r.2) := by
  unfold fX11_letters
  refine zH_eqc (rfl : (μ 4 0).toInt = _) (iL (0) (0) rfl) (fun c_1e c_1 => ?_) (fun c_1e c_1 => ?_)
  · exact zH_some h
  · refine zH_bd (tX11_isSpan) (fun x_2 p_3 => ?_)
    have q_4 : (x_2.toInt = 0 ∨ x_2.toInt = 1) ∧ (x_2.toInt = 1 → a1.toInt ≤ 500) := p_3
    refine zH_eqc (rfl : x_2.toInt = _) (iL (0) (0) rfl) (fun c_5e c_5 => ?_) (fun c_5e c_5 => ?_)
    · exact zH_some h
    · refine zH_bp (tX3_sentIn h (by omega)) (fun x_6 μ_7 p_8 => ?_)
      have h_9 : J w L M μ_7 := p_8
      exact zH_some h_9
theorem tX11_stands {w : Bool} {L : Int32} {M : gM} {a1 : Int32} {a2 : Int32} {a3 : Int32} {μ : gM}  (h : J w L M μ)  : zH (fX11_stands a1 a2 a3 μ) (fun r => J w L M r.2) := by
  unfold fX11_stands
  refine zH_bd (tX1_isMember h.nb4) (fun x_1 p_2 => ?_)
  have q_3 : (x_1.toInt = 0 ∨ x_1.toInt = 1) ∧ (x_1.toInt = 1 → 0 ≤ a1.toInt ∧ a1.toInt ≤ 4 ∧ 0 ≤ a2.toInt ∧ a2.toInt ≤ 5) := p_2
  refine zH_eqc (rfl : x_1.toInt = _) (iL (0) (0) rfl) (fun c_4e c_4 => ?_) (fun c_4e c_4 => ?_)
  · exact zH_some h
  · refine zH_bd (tX11_isSpan) (fun x_5 p_6 => ?_)
    have q_7 : (x_5.toInt = 0 ∨ x_5.toInt = 1) ∧ (x_5.toInt = 1 → a3.toInt ≤ 500) := p_6
    refine zH_eqc (rfl : x_5.toInt = _) (iL (0) (0) rfl) (fun c_8e c_8 => ?_) (fun c_8e c_8 => ?_)
    · exact zH_some h
    · refine zH_bp (tX3_ticksHeld h (by omega) (by omega) (by omega)) (fun x_9 μ_10 p_11 => ?_)
      have h_12 : J w L M μ_10 := p_11
      exact zH_some h_12
theorem tX11_returns {w : Bool} {L : Int32} {M : gM} {a1 : Int32} {a2 : Int32} {μ : gM}  (h : J w L M μ)  : zH (fX11_returns a1 a2 μ) (fun r => J w L M r.2) := by
  unfold fX11_returns
  refine zH_bd (tX1_isMember h.nb4) (fun x_1 p_2 => ?_)
  have q_3 : (x_1.toInt = 0 ∨ x_1.toInt = 1) ∧ (x_1.toInt = 1 → 0 ≤ a1.toInt ∧ a1.toInt ≤ 4 ∧ 0 ≤ a2.toInt ∧ a2.toInt ≤ 5) := p_2
  refine zH_eqc (rfl : x_1.toInt = _) (iL (0) (0) rfl) (fun c_4e c_4 => ?_) (fun c_4e c_4 => ?_)
  · exact zH_some h
  · refine zH_bd (tX9_isUp) (fun x_5 p_6 => ?_)
    have q_7 : x_5.toInt = 0 ∨ x_5.toInt = 1 := p_6
    refine zH_eqc (rfl : x_5.toInt = _) (iL (0) (0) rfl) (fun c_8e c_8 => ?_) (fun c_8e c_8 => ?_)
    · refine zH_bp (tX3_regainedBehind h (by omega) (by omega)) (fun x_9 μ_10 p_11 => ?_)
      have h_12 : J w L M μ_10 := p_11
      exact zH_some h_12
    · exact zH_some h
theorem tX11_under {w : Bool} {L : Int32} {M : gM} {a1 : Int32} {a2 : Int32} {a3 : Int32} {μ : gM}  (h : J w L M μ)  : zH (fX11_under a1 a2 a3 μ) (fun r => J w L M r.2) := by
  unfold fX11_under
  refine zH_bd (tX11_isPair h) (fun x_1 p_2 => ?_)
  have q_3 : (x_1.toInt = 0 ∨ x_1.toInt = 1) ∧ (x_1.toInt = 1 → 0 ≤ a1.toInt ∧ a1.toInt ≤ 4 ∧ 0 ≤ a2.toInt ∧ a2.toInt ≤ 5) := p_2
  refine zH_eqc (rfl : x_1.toInt = _) (iL (0) (0) rfl) (fun c_4e c_4 => ?_) (fun c_4e c_4 => ?_)
  · unfold fX11_under_n35
    refine zH_eqc (iL (0) (0) rfl) (iL (0) (0) rfl) (fun c_5e c_5 => ?_) (fun c_5e c_5 => ?_)
    · exact zH_some h
    · refine zH_bp (tX3_holderWithCuts h (by omega) (by omega)) (fun x_6 μ_7 p_8 => ?_)
      have h_9 : J w L M μ_7 := p_8
      exact zH_some h_9
  · refine zH_bd (tX1_areLinks) (fun x_10 p_11 => ?_)
    have q_12 : x_10.toInt = 0 ∨ x_10.toInt = 1 := p_11
    refine zH_eqc (rfl : x_10.toInt = _) (iL (0) (0) rfl) (fun c_13e c_13 => ?_) (fun c_13e c_13 => ?_)
    · unfold fX11_under_n35
      refine zH_eqc (iL (0) (0) rfl) (iL (0) (0) rfl) (fun c_14e c_14 => ?_) (fun c_14e c_14 => ?_)
      · exact zH_some h
      · refine zH_bp (tX3_holderWithCuts h (by omega) (by omega)) (fun x_15 μ_16 p_17 => ?_)
        have h_18 : J w L M μ_16 := p_17
        exact zH_some h_18
    · have q_19 : (300 : Int32).toInt = (300 : Int) := (iL (300) (300) rfl)
      refine zH_bd (tX11_isWithin) (fun x_20 p_21 => ?_)
      have q_22 : x_20.toInt = 0 ∨ x_20.toInt = 1 := p_21
      refine zH_eqc (rfl : x_20.toInt = _) (iL (0) (0) rfl) (fun c_23e c_23 => ?_) (fun c_23e c_23 => ?_)
      · unfold fX11_under_n35
        refine zH_eqc (iL (0) (0) rfl) (iL (0) (0) rfl) (fun c_24e c_24 => ?_) (fun c_24e c_24 => ?_)
        · exact zH_some h
        · refine zH_bp (tX3_holderWithCuts h (by omega) (by omega)) (fun x_25 μ_26 p_27 => ?_)
          have h_28 : J w L M μ_26 := p_27
          exact zH_some h_28
      · unfold fX11_under_n35
        refine zH_eqc (iL (1) (1) rfl) (iL (0) (0) rfl) (fun c_29e c_29 => ?_) (fun c_29e c_29 => ?_)
        · exact zH_some h
        · refine zH_bp (tX3_holderWithCuts h (by omega) (by omega)) (fun x_30 μ_31 p_32 => ?_)
          have h_33 : J w L M μ_31 := p_32
          exact zH_some h_33
theorem tX11_rank_l57     : ∀ (n : Nat) (y1 : Int32) (y2 : Int32) (y3 : Int32) (y4 : Int32) (y5 : Int32) (μ : gM), 0 ≤ y1.toInt → y1.toInt ≤ 4 → 0 ≤ y5.toInt → y2.toInt ≤ 64 → max 0 (64 - y5.toInt) < (n : Int) → zH (fX11_rank_l57  n y1 y2 y3 y4 y5 μ) (fun _ => True) := by
  intro n
  induction n with
  | zero =>
    intro y1 y2 y3 y4 y5 μ  g0 g1 g2 g3 gm
    exact absurd gm (by omega)
  | succ n ih =>
    intro y1 y2 y3 y4 y5 μ  g0 g1 g2 g3 gm
    rw [fX11_rank_l57]
    refine zH_lec (rfl : y2.toInt = _) (rfl : y5.toInt = _) (fun c_1 => ?_) (fun c_1 => ?_)
    · exact zH_some trivial
    · refine zH_eqc (rfl : y4.toInt = _) (iL (-1) (-1) rfl) (fun c_2e c_2 => ?_) (fun c_2e c_2 => ?_)
      · exact zH_some trivial
      · refine zH_lt (fun x_3 e_4 => ?_)
        refine zH_bd (tX9_strongest (by omega) (by omega)) (fun x_5 p_6 => ?_)
        have q_7 : (-1 : Int) ≤ x_5.toInt ∧ x_5.toInt ≤ 5 := p_6
        refine zH_lt (fun x_8 e_9 => ?_)
        have q_10 : x_8.toInt = (y5.toInt + (1 : Int)) := (congrArg Int32.toInt e_9).trans (iA (rfl : y5.toInt = _) (iL (1) (1) rfl) (by omega) (by omega))
        exact ih y1 y2 x_3 x_5 x_8 μ (by omega) (by omega) (by omega) (by omega) (by omega)
theorem tX11_rank {w : Bool} {L : Int32} {M : gM} {a1 : Int32} {a2 : Int32} {μ : gM}  (h : J w L M μ)  : zH (fX11_rank a1 a2 μ) (fun _ => True) := by
  unfold fX11_rank
  refine zH_bd (tX1_isGroup h.nb4) (fun x_1 p_2 => ?_)
  have q_3 : (x_1.toInt = 0 ∨ x_1.toInt = 1) ∧ (x_1.toInt = 1 → 0 ≤ a1.toInt ∧ a1.toInt ≤ 4) := p_2
  refine zH_eqc (rfl : x_1.toInt = _) (iL (0) (0) rfl) (fun c_4e c_4 => ?_) (fun c_4e c_4 => ?_)
  · exact zH_some trivial
  · refine zH_ltc (rfl : a2.toInt = _) (iL (0) (0) rfl) (fun c_5 => ?_) (fun c_5 => ?_)
    · exact zH_some trivial
    · refine zH_ck (zIn (rfl : a1.toInt = _) (by omega) (by omega)) ?_
      refine zH_bd (tJ6_bitCount_0f7a4) (fun x_6 p_7 => ?_)
      have q_8 : x_6.toInt ≤ 63 := p_7
      refine zH_ltc (rfl : a2.toInt = _) (rfl : x_6.toInt = _) (fun c_9 => ?_) (fun c_9 => ?_)
      · refine zH_ck (zIn (rfl : a1.toInt = _) (by omega) (by omega)) ?_
        refine zH_lt (fun x_10 e_11 => ?_)
        refine zH_bd (tX9_strongest (by omega) (by omega)) (fun x_12 p_13 => ?_)
        have q_14 : (-1 : Int) ≤ x_12.toInt ∧ x_12.toInt ≤ 5 := p_13
        have q_15 : (0 : Int32).toInt = (0 : Int) := (iL (0) (0) rfl)
        exact zH_mono (tX11_rank_l57 100000 a1 a2 x_10 x_12 (0 : Int32) μ (by omega) (by omega) (by omega) (by omega) (by omega)) (fun _ _ => trivial)
      · exact zH_some trivial
theorem tX11_log {w : Bool} {L : Int32} {M : gM} {a1 : Int32} {a2 : Int32} {μ : gM}  (h : J w L M μ)  : zH (fX11_log a1 a2 μ) (fun _ => True) := by
  unfold fX11_log
  refine zH_bd (tX0_read sS_34.c h) (fun x_1 p_2 => ?_)
  exact zH_some trivial
theorem tX11_undo {w : Bool} {L : Int32} {M : gM} {μ : gM}  (h : J w L M μ)  : zH (fX11_undo μ) (fun r => J w L M r.2) := by
  unfold fX11_undo
  refine zH_eqc (rfl : (μ 4 0).toInt = _) (iL (0) (0) rfl) (fun c_1e c_1 => ?_) (fun c_1e c_1 => ?_)
  · exact zH_some h
  · refine zH_bp (tX4_restore sS_34 h) (fun x_2 μ_3 p_4 => ?_)
    have h_5 : J w L M μ_3 := p_4.1
    have q_6 : x_2.toInt = 0 ∨ x_2.toInt = 1 := p_4.2
    refine zH_eqc (rfl : x_2.toInt = _) (iL (0) (0) rfl) (fun c_7e c_7 => ?_) (fun c_7e c_7 => ?_)
    · exact zH_some h_5
    · exact zH_some h_5
theorem tX11_keep {w : Bool} {L : Int32} {M : gM} {a1 : Int32} {μ : gM}  (h : J w L M μ)  : zH (fX11_keep a1 μ) (fun r => J w L M r.2) := by
  unfold fX11_keep
  refine zH_eqc (rfl : (μ 4 0).toInt = _) (iL (0) (0) rfl) (fun c_1e c_1 => ?_) (fun c_1e c_1 => ?_)
  · exact zH_some h
  · refine zH_ltc (rfl : a1.toInt = _) (iL (0) (0) rfl) (fun c_2 => ?_) (fun c_2 => ?_)
    · exact zH_some h
    · refine zH_ltc (rfl : a1.toInt = _) (iL (2) (2) rfl) (fun c_3 => ?_) (fun c_3 => ?_)
      · refine zH_bd (tX4_keepImage sS_34 h (by omega) (by omega)) (fun μ_4 p_5 => ?_)
        have h_6 : J w L M μ_4 := p_5
        exact zH_some h_6
      · exact zH_some h
theorem tX11_back {w : Bool} {L : Int32} {M : gM} {a1 : Int32} {μ : gM}  (h : J w L M μ)  : zH (fX11_back a1 μ) (fun r => J w L M r.2) := by
  unfold fX11_back
  refine zH_eqc (rfl : (μ 4 0).toInt = _) (iL (0) (0) rfl) (fun c_1e c_1 => ?_) (fun c_1e c_1 => ?_)
  · exact zH_some h
  · refine zH_ltc (rfl : a1.toInt = _) (iL (0) (0) rfl) (fun c_2 => ?_) (fun c_2 => ?_)
    · exact zH_some h
    · refine zH_ltc (rfl : a1.toInt = _) (iL (2) (2) rfl) (fun c_3 => ?_) (fun c_3 => ?_)
      · refine zH_bp (tX4_takeImage sS_34 h (by omega) (by omega)) (fun x_4 μ_5 p_6 => ?_)
        have h_7 : J w L M μ_5 := p_6.1
        have q_8 : x_4.toInt = 0 ∨ x_4.toInt = 1 := p_6.2
        refine zH_eqc (rfl : x_4.toInt = _) (iL (0) (0) rfl) (fun c_9e c_9 => ?_) (fun c_9e c_9 => ?_)
        · exact zH_some h_7
        · exact zH_some h_7
      · exact zH_some h
