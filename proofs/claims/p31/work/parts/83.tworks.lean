theorem tX10_runAllGroups {w : Bool} {L : Int32} {M : gM} {p0 : Nat} {μ : gM} (hp0 : sW p0) (h : J w L M μ)  : zH (fX10_runAllGroups p0 μ) (fun ν => J w L M ν) := by
  unfold fX10_runAllGroups
  have q_4 : (0 : Int32).toInt = (0 : Int) := (iL (0) (0) rfl)
  refine zH_lt (fun μ_1 e_2 => ?_)
  have h_3 : J w L M μ_1 := by rw [e_2]; exact J.up h (a := (p0 + 14)) (k := (0, 10)) hp0.2 (fx34 (by have := hp0.1.2.2; omega) (by have := hp0.1.2.1; omega)) (by decide) (by decide) (Or.inl (by have := hp0.1.2.2; omega)) (show (0 : Int) ≤ (0 : Int32).toInt ∧ (0 : Int32).toInt ≤ 4 from by have q_5 : (0 : Int32).toInt = (0 : Int) := (iL (0) (0) rfl); omega)
  have f_9 : (0 : Int) ≤ (μ_1 5 2).toInt ∧ (μ_1 5 2).toInt ≤ 5 := h_3.rd (a := 5) rfl (by decide) 2
  have q_10 : ((μ_1 5 2) - (1 : Int32)).toInt = ((μ_1 5 2).toInt - (1 : Int)) := (iS (rfl : (μ_1 5 2).toInt = _) (iL (1) (1) rfl) (by omega) (by omega))
  refine zH_lt (fun μ_6 e_7 => ?_)
  have h_8 : J w L M μ_6 := by rw [e_7]; exact J.up h_3 (a := (p0 + 14)) (k := (0, 10)) hp0.2 (fx34 (by have := hp0.1.2.2; omega) (by have := hp0.1.2.1; omega)) (by decide) (by decide) (Or.inl (by have := hp0.1.2.2; omega)) (show (-1 : Int) ≤ ((μ_1 5 2) - (1 : Int32)).toInt ∧ ((μ_1 5 2) - (1 : Int32)).toInt ≤ 4 from by have q_11 : ((μ_1 5 2) - (1 : Int32)).toInt = ((μ_1 5 2).toInt - (1 : Int)) := (iS (rfl : (μ_1 5 2).toInt = _) (iL (1) (1) rfl) (by omega) (by omega)); omega)
  exact zH_some h_8
theorem tX10_runOneGroup {w : Bool} {L : Int32} {M : gM} {p0 : Nat} {a1 : Int32} {μ : gM} (hp0 : sW p0) (h : J w L M μ) (g0 : 0 ≤ a1.toInt) (g1 : a1.toInt ≤ 4) : zH (fX10_runOneGroup p0 a1 μ) (fun ν => J w L M ν) := by
  unfold fX10_runOneGroup
  refine zH_lt (fun μ_1 e_2 => ?_)
  have h_3 : J w L M μ_1 := by rw [e_2]; exact J.up h (a := (p0 + 14)) (k := (0, 10)) hp0.2 (fx34 (by have := hp0.1.2.2; omega) (by have := hp0.1.2.1; omega)) (by decide) (by decide) (Or.inl (by have := hp0.1.2.2; omega)) (show (0 : Int) ≤ (a1).toInt ∧ (a1).toInt ≤ 4 from by have q_4 : (a1).toInt = a1.toInt := (rfl : a1.toInt = _); omega)
  refine zH_lt (fun μ_5 e_6 => ?_)
  have h_7 : J w L M μ_5 := by rw [e_6]; exact J.up h_3 (a := (p0 + 14)) (k := (0, 10)) hp0.2 (fx34 (by have := hp0.1.2.2; omega) (by have := hp0.1.2.1; omega)) (by decide) (by decide) (Or.inl (by have := hp0.1.2.2; omega)) (show (-1 : Int) ≤ (a1).toInt ∧ (a1).toInt ≤ 4 from by have q_8 : (a1).toInt = a1.toInt := (rfl : a1.toInt = _); omega)
  exact zH_some h_7
theorem tX10_quietTicks_l91 {w : Bool} {L : Int32} {M : gM} {p0 : Nat} {k57 : Int32 → Int32 → gM → Option Int32} {Q : Int32 → Prop} (hp0 : sW p0) : ∀ (n : Nat) (y2 : Int32) (y3 : Int32) (y4 : Int32) (y5 : Int32) (μ : gM), (∀ (b1 : Int32) (b2 : Int32) (ν : gM), J w L M ν → b1.toInt ≤ y2.toInt → b2.toInt = y3.toInt + 1 → zH (k57 b1 b2 ν) Q) → J w L M μ → 0 ≤ y3.toInt → y3.toInt ≤ 4 → 0 ≤ y5.toInt → y5.toInt ≤ 6 → 6 - y5.toInt < (n : Int) → zH (fX10_quietTicks_l91 p0 k57 n y2 y3 y4 y5 μ) Q := by
  intro n
  induction n with
  | zero =>
    intro y2 y3 y4 y5 μ hk0 h g0 g1 g2 g3 gm
    exact absurd gm (by omega)
  | succ n ih =>
    intro y2 y3 y4 y5 μ hk0 h g0 g1 g2 g3 gm
    rw [fX10_quietTicks_l91]
    refine zH_lec (iL (6) (6) rfl) (rfl : y5.toInt = _) (fun c_1 => ?_) (fun c_1 => ?_)
    · refine zH_lt (fun x_2 e_3 => ?_)
      have q_4 : x_2.toInt = (y3.toInt + (1 : Int)) := (congrArg Int32.toInt e_3).trans (iA (rfl : y3.toInt = _) (iL (1) (1) rfl) (by omega) (by omega))
      exact hk0 y2 x_2 μ h (by omega) (by omega)
    · refine zH_eqc (rfl : ((y4 >>> (y5 &&& 31)) &&& (1 : Int32)).toInt = _) (iL (1) (1) rfl) (fun c_5e c_5 => ?_) (fun c_5e c_5 => ?_)
      · refine zH_ck (zIn (iA (iM (rfl : y3.toInt = _) (iL (6) (6) rfl) (by omega) (by omega)) (rfl : y5.toInt = _) (by omega) (by omega)) (by omega) (by omega)) ?_
        refine zH_lt (fun x_6 e_7 => ?_)
        have q_8 : x_6.toInt = (min y2.toInt (μ (p0 + 12) (((y3 * (6 : Int32)) + y5)).toNatClampNeg).toInt) := (congrArg Int32.toInt e_7).trans (iMn' (rfl : y2.toInt = _) (rfl : (μ (p0 + 12) (((y3 * (6 : Int32)) + y5)).toNatClampNeg).toInt = _))
        refine zH_lt (fun x_9 e_10 => ?_)
        have q_11 : x_9.toInt = (y5.toInt + (1 : Int)) := (congrArg Int32.toInt e_10).trans (iA (rfl : y5.toInt = _) (iL (1) (1) rfl) (by omega) (by omega))
        exact ih x_6 y3 y4 x_9 μ (fun b_12 b_13 μ_14 h_15 c_16 c_17 => hk0 b_12 b_13 μ_14 h_15 (by omega) (by omega)) h (by omega) (by omega) (by omega) (by omega) (by omega)
      · refine zH_lt (fun x_18 e_19 => ?_)
        have q_20 : x_18.toInt = (y5.toInt + (1 : Int)) := (congrArg Int32.toInt e_19).trans (iA (rfl : y5.toInt = _) (iL (1) (1) rfl) (by omega) (by omega))
        exact ih y2 y3 y4 x_18 μ (fun b_21 b_22 μ_23 h_24 c_25 c_26 => hk0 b_21 b_22 μ_23 h_24 (by omega) (by omega)) h (by omega) (by omega) (by omega) (by omega) (by omega)
theorem tX10_quietTicks_l57 {w : Bool} {L : Int32} {M : gM} {p0 : Nat}  (hp0 : sW p0) : ∀ (n : Nat) (y2 : Int32) (y3 : Int32) (μ : gM), J w L M μ → 0 ≤ y3.toInt → y3.toInt ≤ 5 → 5 - y3.toInt < (n : Int) → zH (fX10_quietTicks_l57 p0 n y2 y3 μ) (fun v => v.toInt ≤ y2.toInt) := by
  intro n
  induction n with
  | zero =>
    intro y2 y3 μ  h g0 g1 gm
    exact absurd gm (by omega)
  | succ n ih =>
    intro y2 y3 μ  h g0 g1 gm
    rw [fX10_quietTicks_l57]
    have f_2 : (-1 : Int) ≤ (μ (p0 + 14) 3).toInt ∧ (μ (p0 + 14) 3).toInt ≤ 4 := h.rd (a := (p0 + 14)) hp0.2 (hp0.1.2.1) 3
    refine zH_ltc (rfl : (μ (p0 + 14) 3).toInt = _) (rfl : y3.toInt = _) (fun c_1 => ?_) (fun c_1 => ?_)
    · exact zH_some (show y2.toInt ≤ y2.toInt from by have q_3 : (y2).toInt = y2.toInt := (rfl : y2.toInt = _); omega)
    · refine zH_lec (rfl : y2.toInt = _) (iL (0) (0) rfl) (fun c_4 => ?_) (fun c_4 => ?_)
      · exact zH_some (show y2.toInt ≤ y2.toInt from by have q_5 : (y2).toInt = y2.toInt := (rfl : y2.toInt = _); omega)
      · refine zH_ck (zIn (rfl : y3.toInt = _) (by omega) (by omega)) ?_
        refine zH_lt (fun x_6 e_7 => ?_)
        have q_8 : (0 : Int32).toInt = (0 : Int) := (iL (0) (0) rfl)
        exact tX10_quietTicks_l91 hp0 100000 y2 y3 x_6 (0 : Int32) μ (fun b_9 b_10 μ_11 h_12 c_13 c_14 => zH_mono (ih b_9 b_10 μ_11 h_12 (by omega) (by omega) (by omega)) (fun r_16 p_15 => show r_16.toInt ≤ y2.toInt from by have q_17 : r_16.toInt ≤ b_9.toInt := p_15; omega)) h (by omega) (by omega) (by omega) (by omega) (by omega)
theorem tX10_quietTicks {w : Bool} {L : Int32} {M : gM} {p0 : Nat} {a1 : Int32} {μ : gM} (hp0 : sW p0) (h : J w L M μ)  : zH (fX10_quietTicks p0 a1 μ) (fun v => v.toInt ≤ a1.toInt) := by
  unfold fX10_quietTicks
  have f_2 : (0 : Int) ≤ (μ (p0 + 1) 0).toInt ∧ (μ (p0 + 1) 0).toInt ≤ 20 := h.rd (a := (p0 + 1)) (hp0.1.1 1 (by decide)) (by have := hp0.1.2.1; omega) 0
  have f_3 : (0 : Int) ≤ (μ p0 8).toInt ∧ (μ p0 8).toInt ≤ 2147483647 := h.rd (a := p0) (hp0.1.1 0 (by decide)) (by have := hp0.1.2.1; omega) 8
  refine zH_lec (rfl : (μ (p0 + 1) 0).toInt = _) (rfl : (μ p0 8).toInt = _) (fun c_1 => ?_) (fun c_1 => ?_)
  · have f_6 : (0 : Int) ≤ (μ (p0 + 14) 2).toInt ∧ (μ (p0 + 14) 2).toInt ≤ 4 := h.rd (a := (p0 + 14)) hp0.2 (hp0.1.2.1) 2
    refine zH_lt (fun x_4 e_5 => ?_)
    have q_7 : x_4.toInt = (μ (p0 + 14) 2).toInt := (congrArg Int32.toInt e_5).trans (rfl : (μ (p0 + 14) 2).toInt = _)
    exact zH_mono (tX10_quietTicks_l57 hp0 100000 a1 x_4 μ h (by omega) (by omega) (by omega)) (fun r_9 p_8 => show r_9.toInt ≤ a1.toInt from by have q_10 : r_9.toInt ≤ a1.toInt := p_8; omega)
  · refine zH_bd (tX5_at (by omega) (by omega)) (fun x_11 p_12 => ?_)
    refine zH_lt (fun x_13 e_14 => ?_)
    have q_15 : x_13.toInt = (min a1.toInt (x_11 - (μ p0 0)).toInt) := (congrArg Int32.toInt e_14).trans (iMn' (rfl : a1.toInt = _) (rfl : (x_11 - (μ p0 0)).toInt = _))
    have f_18 : (0 : Int) ≤ (μ (p0 + 14) 2).toInt ∧ (μ (p0 + 14) 2).toInt ≤ 4 := h.rd (a := (p0 + 14)) hp0.2 (hp0.1.2.1) 2
    refine zH_lt (fun x_16 e_17 => ?_)
    have q_19 : x_16.toInt = (μ (p0 + 14) 2).toInt := (congrArg Int32.toInt e_17).trans (rfl : (μ (p0 + 14) 2).toInt = _)
    exact zH_mono (tX10_quietTicks_l57 hp0 100000 x_13 x_16 μ h (by omega) (by omega) (by omega)) (fun r_21 p_20 => show r_21.toInt ≤ a1.toInt from by have q_22 : r_21.toInt ≤ x_13.toInt := p_20; omega)
theorem tX10_wind_l21 {w : Bool} {L : Int32} {M : gM} {p0 : Nat}  (hp0 : sW p0) : ∀ (n : Nat) (y1 : Int32) (y2 : Int32) (y3 : Int32) (y4 : Int32) (μ : gM), J w L M μ → 0 ≤ y1.toInt → y1.toInt ≤ 4 → 0 ≤ y4.toInt → y4.toInt ≤ 6 → 6 - y4.toInt < (n : Int) → zH (fX10_wind_l21 p0 n y1 y2 y3 y4 μ) (fun ν => J w L M ν) := by
  intro n
  induction n with
  | zero =>
    intro y1 y2 y3 y4 μ  h g0 g1 g2 g3 gm
    exact absurd gm (by omega)
  | succ n ih =>
    intro y1 y2 y3 y4 μ  h g0 g1 g2 g3 gm
    rw [fX10_wind_l21]
    refine zH_lec (iL (6) (6) rfl) (rfl : y4.toInt = _) (fun c_1 => ?_) (fun c_1 => ?_)
    · exact zH_some h
    · refine zH_eqc (rfl : ((y3 >>> (y4 &&& 31)) &&& (1 : Int32)).toInt = _) (iL (1) (1) rfl) (fun c_2e c_2 => ?_) (fun c_2e c_2 => ?_)
      · refine zH_lt (fun x_3 e_4 => ?_)
        have q_5 : x_3.toInt = ((y1.toInt * (6 : Int)) + y4.toInt) := (congrArg Int32.toInt e_4).trans (iA (iM (rfl : y1.toInt = _) (iL (6) (6) rfl) (by omega) (by omega)) (rfl : y4.toInt = _) (by omega) (by omega))
        refine zH_ck (zIn (rfl : x_3.toInt = _) (by omega) (by omega)) ?_
        refine zH_ck (zIn (rfl : x_3.toInt = _) (by omega) (by omega)) ?_
        refine zH_lt (fun μ_6 e_7 => ?_)
        have h_8 : J w L M μ_6 := by rw [e_7]; exact J.upf h (a := (p0 + 12)) (k := (1, 30)) (hp0.1.1 12 (by decide)) (fx34 (by have := hp0.1.2.2; omega) (by have := hp0.1.2.1; omega)) (by decide) (by decide) (Or.inl (by have := hp0.1.2.2; omega)) rfl
        refine zH_lt (fun x_9 e_10 => ?_)
        have q_11 : x_9.toInt = (y4.toInt + (1 : Int)) := (congrArg Int32.toInt e_10).trans (iA (rfl : y4.toInt = _) (iL (1) (1) rfl) (by omega) (by omega))
        exact ih y1 y2 y3 x_9 μ_6 h_8 (by omega) (by omega) (by omega) (by omega) (by omega)
      · refine zH_lt (fun x_12 e_13 => ?_)
        have q_14 : x_12.toInt = (y4.toInt + (1 : Int)) := (congrArg Int32.toInt e_13).trans (iA (rfl : y4.toInt = _) (iL (1) (1) rfl) (by omega) (by omega))
        exact ih y1 y2 y3 x_12 μ h (by omega) (by omega) (by omega) (by omega) (by omega)
theorem tX10_wind {w : Bool} {L : Int32} {M : gM} {p0 : Nat} {a1 : Int32} {a2 : Int32} {μ : gM} (hp0 : sW p0) (h : J w L M μ) (g0 : 0 ≤ a1.toInt) (g1 : a1.toInt ≤ 4) : zH (fX10_wind p0 a1 a2 μ) (fun ν => J w L M ν) := by
  unfold fX10_wind
  refine zH_ck (zIn (rfl : a1.toInt = _) (by omega) (by omega)) ?_
  refine zH_lt (fun x_1 e_2 => ?_)
  have q_3 : (0 : Int32).toInt = (0 : Int) := (iL (0) (0) rfl)
  exact zH_mono (tX10_wind_l21 hp0 100000 a1 a2 x_1 (0 : Int32) μ h (by omega) (by omega) (by omega) (by omega) (by omega)) (fun r_5 p_4 => p_4)
theorem tX10_tally {w : Bool} {L : Int32} {M : gM} {p0 : Nat} {a1 : Int32} {a2 : Int32} {μ : gM} (hp0 : sW p0) (h : J w L M μ) (g0 : 0 ≤ a1.toInt) (g1 : a1.toInt ≤ 4) : zH (fX10_tally p0 a1 a2 μ) (fun ν => J w L M ν) := by
  unfold fX10_tally
  refine zH_ck (zIn (rfl : a1.toInt = _) (by omega) (by omega)) ?_
  refine zH_eqc (rfl : (μ (p0 + 5) (a1).toNatClampNeg).toInt = _) (iL (0) (0) rfl) (fun c_1e c_1 => ?_) (fun c_1e c_1 => ?_)
  · refine zH_ck (zIn (rfl : a1.toInt = _) (by omega) (by omega)) ?_
    refine zH_eqc (rfl : ((μ 11 (a1).toNatClampNeg) &&& (μ p0 1)).toInt = _) (iL (0) (0) rfl) (fun c_2e c_2 => ?_) (fun c_2e c_2 => ?_)
    · unfold fX10_tally_n37
      refine zH_ck (zIn (rfl : a1.toInt = _) (by omega) (by omega)) ?_
      refine zH_eqc (iL (0) (0) rfl) (iL (0) (0) rfl) (fun c_3e c_3 => ?_) (fun c_3e c_3 => ?_)
      · refine zH_ck (zIn (rfl : a1.toInt = _) (by omega) (by omega)) ?_
        refine zH_lt (fun μ_4 e_5 => ?_)
        have h_6 : J w L M μ_4 := by rw [e_5]; exact J.upf h (a := (p0 + 6)) (k := (1, 5)) (hp0.1.1 6 (by decide)) (fx34 (by have := hp0.1.2.2; omega) (by have := hp0.1.2.1; omega)) (by decide) (by decide) (Or.inl (by have := hp0.1.2.2; omega)) rfl
        exact zH_some h_6
      · refine zH_ck (zIn (rfl : a1.toInt = _) (by omega) (by omega)) ?_
        refine zH_lt (fun μ_7 e_8 => ?_)
        have h_9 : J w L M μ_7 := by rw [e_8]; exact J.upf h (a := (p0 + 6)) (k := (1, 5)) (hp0.1.1 6 (by decide)) (fx34 (by have := hp0.1.2.2; omega) (by have := hp0.1.2.1; omega)) (by decide) (by decide) (Or.inl (by have := hp0.1.2.2; omega)) rfl
        exact zH_some h_9
    · unfold fX10_tally_n37
      refine zH_ck (zIn (rfl : a1.toInt = _) (by omega) (by omega)) ?_
      refine zH_eqc (iL (1) (1) rfl) (iL (0) (0) rfl) (fun c_10e c_10 => ?_) (fun c_10e c_10 => ?_)
      · refine zH_ck (zIn (rfl : a1.toInt = _) (by omega) (by omega)) ?_
        refine zH_lt (fun μ_11 e_12 => ?_)
        have h_13 : J w L M μ_11 := by rw [e_12]; exact J.upf h (a := (p0 + 6)) (k := (1, 5)) (hp0.1.1 6 (by decide)) (fx34 (by have := hp0.1.2.2; omega) (by have := hp0.1.2.1; omega)) (by decide) (by decide) (Or.inl (by have := hp0.1.2.2; omega)) rfl
        exact zH_some h_13
      · refine zH_ck (zIn (rfl : a1.toInt = _) (by omega) (by omega)) ?_
        refine zH_lt (fun μ_14 e_15 => ?_)
        have h_16 : J w L M μ_14 := by rw [e_15]; exact J.upf h (a := (p0 + 6)) (k := (1, 5)) (hp0.1.1 6 (by decide)) (fx34 (by have := hp0.1.2.2; omega) (by have := hp0.1.2.1; omega)) (by decide) (by decide) (Or.inl (by have := hp0.1.2.2; omega)) rfl
        exact zH_some h_16
  · refine zH_bd (tX9_isDouble (by omega) (by omega)) (fun x_17 p_18 => ?_)
    have q_19 : x_17.toInt = 0 ∨ x_17.toInt = 1 := p_18
    refine zH_eqc (rfl : x_17.toInt = _) (iL (0) (0) rfl) (fun c_20e c_20 => ?_) (fun c_20e c_20 => ?_)
    · exact zH_some h
    · refine zH_ck (zIn (rfl : a1.toInt = _) (by omega) (by omega)) ?_
      refine zH_ck (zIn (rfl : a1.toInt = _) (by omega) (by omega)) ?_
      refine zH_lt (fun μ_21 e_22 => ?_)
      have h_23 : J w L M μ_21 := by rw [e_22]; exact J.upf h (a := (p0 + 7)) (k := (1, 5)) (hp0.1.1 7 (by decide)) (fx34 (by have := hp0.1.2.2; omega) (by have := hp0.1.2.1; omega)) (by decide) (by decide) (Or.inl (by have := hp0.1.2.2; omega)) rfl
      exact zH_some h_23
theorem tX10_passQuietly_l5 {w : Bool} {L : Int32} {M : gM} {p0 : Nat}  (hp0 : sW p0) : ∀ (n : Nat) (y1 : Int32) (y2 : Int32) (μ : gM), J w L M μ → 0 ≤ y2.toInt → y2.toInt ≤ 5 → 5 - y2.toInt < (n : Int) → zH (fX10_passQuietly_l5 p0 n y1 y2 μ) (fun ν => J w L M ν) := by
  intro n
  induction n with
  | zero =>
    intro y1 y2 μ  h g0 g1 gm
    exact absurd gm (by omega)
  | succ n ih =>
    intro y1 y2 μ  h g0 g1 gm
    rw [fX10_passQuietly_l5]
    have f_2 : (-1 : Int) ≤ (μ (p0 + 14) 3).toInt ∧ (μ (p0 + 14) 3).toInt ≤ 4 := h.rd (a := (p0 + 14)) hp0.2 (hp0.1.2.1) 3
    refine zH_ltc (rfl : (μ (p0 + 14) 3).toInt = _) (rfl : y2.toInt = _) (fun c_1 => ?_) (fun c_1 => ?_)
    · refine zH_lt (fun μ_3 e_4 => ?_)
      have h_5 : J w L M μ_3 := by rw [e_4]; exact J.upf h (a := p0) (k := (0, 9)) (hp0.1.1 0 (by decide)) (fx34 (by have := hp0.1.2.2; omega) (by have := hp0.1.2.1; omega)) (by decide) (by decide) (Or.inl (by have := hp0.1.2.2; omega)) rfl
      exact zH_some h_5
    · refine zH_bd (tX10_wind hp0 h (by omega) (by omega)) (fun μ_6 p_7 => ?_)
      have h_8 : J w L M μ_6 := p_7
      refine zH_bd (tX10_tally hp0 h_8 (by omega) (by omega)) (fun μ_9 p_10 => ?_)
      have h_11 : J w L M μ_9 := p_10
      refine zH_lt (fun x_12 e_13 => ?_)
      have q_14 : x_12.toInt = (y2.toInt + (1 : Int)) := (congrArg Int32.toInt e_13).trans (iA (rfl : y2.toInt = _) (iL (1) (1) rfl) (by omega) (by omega))
      exact ih y1 x_12 μ_9 h_11 (by omega) (by omega) (by omega)
theorem tX10_passQuietly {w : Bool} {L : Int32} {M : gM} {p0 : Nat} {a1 : Int32} {μ : gM} (hp0 : sW p0) (h : J w L M μ)  : zH (fX10_passQuietly p0 a1 μ) (fun ν => J w L M ν) := by
  unfold fX10_passQuietly
  have f_3 : (0 : Int) ≤ (μ (p0 + 14) 2).toInt ∧ (μ (p0 + 14) 2).toInt ≤ 4 := h.rd (a := (p0 + 14)) hp0.2 (hp0.1.2.1) 2
  refine zH_lt (fun x_1 e_2 => ?_)
  have q_4 : x_1.toInt = (μ (p0 + 14) 2).toInt := (congrArg Int32.toInt e_2).trans (rfl : (μ (p0 + 14) 2).toInt = _)
  exact zH_mono (tX10_passQuietly_l5 hp0 100000 a1 x_1 μ h (by omega) (by omega) (by omega)) (fun r_6 p_5 => p_5)
theorem tX10_hold {w : Bool} {L : Int32} {M : gM} {p0 : Nat} {a1 : Int32} {a2 : Int32} {μ : gM} (hp0 : sW p0) (h : J w L M μ) (g0 : 0 ≤ a1.toInt) (g1 : a1.toInt ≤ 4) (g2 : 0 ≤ a2.toInt) (g3 : a2.toInt ≤ 5) : zH (fX10_hold p0 a1 a2 μ) (fun ν => J w L M ν) := by
  unfold fX10_hold
  refine zH_lt (fun x_1 e_2 => ?_)
  have q_3 : x_1.toInt = ((a1.toInt * (6 : Int)) + a2.toInt) := (congrArg Int32.toInt e_2).trans (iA (iM (rfl : a1.toInt = _) (iL (6) (6) rfl) (by omega) (by omega)) (rfl : a2.toInt = _) (by omega) (by omega))
  refine zH_ck (zIn (rfl : a1.toInt = _) (by omega) (by omega)) ?_
  refine zH_ck (zIn (rfl : a1.toInt = _) (by omega) (by omega)) ?_
  refine zH_lt (fun μ_4 e_5 => ?_)
  have h_6 : J w L M μ_4 := by rw [e_5]; exact J.upf h (a := (p0 + 5)) (k := (1, 5)) (hp0.1.1 5 (by decide)) (fx34 (by have := hp0.1.2.2; omega) (by have := hp0.1.2.1; omega)) (by decide) (by decide) (Or.inl (by have := hp0.1.2.2; omega)) rfl
  refine zH_ck (zIn (rfl : x_1.toInt = _) (by omega) (by omega)) ?_
  refine zH_lt (fun μ_7 e_8 => ?_)
  have h_9 : J w L M μ_7 := by rw [e_8]; exact J.upf h_6 (a := (p0 + 12)) (k := (1, 30)) (hp0.1.1 12 (by decide)) (fx34 (by have := hp0.1.2.2; omega) (by have := hp0.1.2.1; omega)) (by decide) (by decide) (Or.inl (by have := hp0.1.2.2; omega)) rfl
  refine zH_ck (zIn (rfl : x_1.toInt = _) (by omega) (by omega)) ?_
  refine zH_lt (fun μ_10 e_11 => ?_)
  have h_12 : J w L M μ_10 := by rw [e_11]; exact J.upf h_9 (a := (p0 + 13)) (k := (1, 30)) (hp0.1.1 13 (by decide)) (fx34 (by have := hp0.1.2.2; omega) (by have := hp0.1.2.1; omega)) (by decide) (by decide) (Or.inl (by have := hp0.1.2.2; omega)) rfl
  refine zH_ck (zIn (rfl : a1.toInt = _) (by omega) (by omega)) ?_
  refine zH_ck (zIn (rfl : a1.toInt = _) (by omega) (by omega)) ?_
  refine zH_lt (fun μ_13 e_14 => ?_)
  have h_15 : J w L M μ_13 := by rw [e_14]; exact J.upf h_12 (a := (p0 + 8)) (k := (1, 5)) (hp0.1.1 8 (by decide)) (fx34 (by have := hp0.1.2.2; omega) (by have := hp0.1.2.1; omega)) (by decide) (by decide) (Or.inl (by have := hp0.1.2.2; omega)) rfl
  refine zH_lt (fun μ_16 e_17 => ?_)
  have h_18 : J w L M μ_16 := by rw [e_17]; exact J.upf h_15 (a := (p0 + 14)) (k := (0, 10)) hp0.2 (fx34 (by have := hp0.1.2.2; omega) (by have := hp0.1.2.1; omega)) (by decide) (by decide) (Or.inl (by have := hp0.1.2.2; omega)) rfl
  have q_19 : (0 : Int32).toInt = (0 : Int) := (iL (0) (0) rfl)
  refine zH_bd (tX0_add (hp0.1).c h_18) (fun μ_20 p_21 => ?_)
  have h_22 : J w L M μ_20 := p_21
  exact zH_some h_22
theorem tX10_await {w : Bool} {L : Int32} {M : gM} {p0 : Nat} {a1 : Int32} {a2 : Int32} {μ : gM} (hp0 : sW p0) (h : J w L M μ) (g0 : 0 ≤ a1.toInt) (g1 : a1.toInt ≤ 4) (g2 : 0 ≤ a2.toInt) (g3 : a2.toInt ≤ 5) : zH (fX10_await p0 a1 a2 μ) (fun ν => J w L M ν) := by
  unfold fX10_await
  refine zH_lt (fun x_1 e_2 => ?_)
  have q_3 : x_1.toInt = ((a1.toInt * (6 : Int)) + a2.toInt) := (congrArg Int32.toInt e_2).trans (iA (iM (rfl : a1.toInt = _) (iL (6) (6) rfl) (by omega) (by omega)) (rfl : a2.toInt = _) (by omega) (by omega))
  refine zH_ck (zIn (rfl : x_1.toInt = _) (by omega) (by omega)) ?_
  refine zH_bd (tX1_patience (by omega) (by omega)) (fun x_4 p_5 => ?_)
  refine zH_ck (zIn (rfl : x_1.toInt = _) (by omega) (by omega)) ?_
  refine zH_lt (fun μ_6 e_7 => ?_)
  have h_8 : J w L M μ_6 := by rw [e_7]; exact J.upf h (a := (p0 + 12)) (k := (1, 30)) (hp0.1.1 12 (by decide)) (fx34 (by have := hp0.1.2.2; omega) (by have := hp0.1.2.1; omega)) (by decide) (by decide) (Or.inl (by have := hp0.1.2.2; omega)) rfl
  refine zH_ck (zIn (rfl : x_1.toInt = _) (by omega) (by omega)) ?_
  refine zH_lt (fun μ_9 e_10 => ?_)
  have h_11 : J w L M μ_9 := by rw [e_10]; exact J.upf h_8 (a := (p0 + 13)) (k := (1, 30)) (hp0.1.1 13 (by decide)) (fx34 (by have := hp0.1.2.2; omega) (by have := hp0.1.2.1; omega)) (by decide) (by decide) (Or.inl (by have := hp0.1.2.2; omega)) rfl
  exact zH_some h_11
theorem tX10_raise_l30 {w : Bool} {L : Int32} {M : gM} {p0 : Nat} {k15 : Int32 → Int32 → gM → Option gM} {Q : gM → Prop} (hp0 : sW p0) : ∀ (n : Nat) (y1 : Int32) (y2 : Int32) (y3 : Int32) (μ : gM), (∀ (b1 : Int32) (b2 : Int32) (ν : gM), J w L M ν → b2.toInt = y2.toInt + 1 → zH (k15 b1 b2 ν) Q) → J w L M μ → 0 ≤ y2.toInt → y2.toInt ≤ 4 → 0 ≤ y3.toInt → y3.toInt ≤ 6 → 6 - y3.toInt < (n : Int) → zH (fX10_raise_l30 p0 k15 n y1 y2 y3 μ) Q := by
  intro n
  induction n with
  | zero =>
    intro y1 y2 y3 μ hk0 h g0 g1 g2 g3 gm
    exact absurd gm (by omega)
  | succ n ih =>
    intro y1 y2 y3 μ hk0 h g0 g1 g2 g3 gm
    rw [fX10_raise_l30]
    refine zH_lec (iL (6) (6) rfl) (rfl : y3.toInt = _) (fun c_1 => ?_) (fun c_1 => ?_)
    · refine zH_lt (fun x_2 e_3 => ?_)
      have q_4 : x_2.toInt = (y2.toInt + (1 : Int)) := (congrArg Int32.toInt e_3).trans (iA (rfl : y2.toInt = _) (iL (1) (1) rfl) (by omega) (by omega))
      exact hk0 y1 x_2 μ h (by omega)
    · refine zH_ck (zIn (rfl : y2.toInt = _) (by omega) (by omega)) ?_
      refine zH_eqc (rfl : (((μ 11 (y2).toNatClampNeg) &&& y1) &&& ((1 : Int32) <<< (y3 &&& 31))).toInt = _) (iL (0) (0) rfl) (fun c_5e c_5 => ?_) (fun c_5e c_5 => ?_)
      · refine zH_lt (fun x_6 e_7 => ?_)
        have q_8 : x_6.toInt = (y3.toInt + (1 : Int)) := (congrArg Int32.toInt e_7).trans (iA (rfl : y3.toInt = _) (iL (1) (1) rfl) (by omega) (by omega))
        exact ih y1 y2 x_6 μ (fun b_9 b_10 μ_11 h_12 c_13 => hk0 b_9 b_10 μ_11 h_12 (by omega)) h (by omega) (by omega) (by omega) (by omega) (by omega)
      · refine zH_ck (zIn (iA (iM (rfl : y2.toInt = _) (iL (6) (6) rfl) (by omega) (by omega)) (rfl : y3.toInt = _) (by omega) (by omega)) (by omega) (by omega)) ?_
        refine zH_eqc (rfl : (μ (p0 + 10) (((y2 * (6 : Int32)) + y3)).toNatClampNeg).toInt = _) (iL (255) (255) rfl) (fun c_14e c_14 => ?_) (fun c_14e c_14 => ?_)
        · refine zH_bd (tX10_hold hp0 h (by omega) (by omega) (by omega) (by omega)) (fun μ_15 p_16 => ?_)
          have h_17 : J w L M μ_15 := p_16
          refine zH_lt (fun x_18 e_19 => ?_)
          have q_20 : x_18.toInt = (y3.toInt + (1 : Int)) := (congrArg Int32.toInt e_19).trans (iA (rfl : y3.toInt = _) (iL (1) (1) rfl) (by omega) (by omega))
          exact ih y1 y2 x_18 μ_15 (fun b_21 b_22 μ_23 h_24 c_25 => hk0 b_21 b_22 μ_23 h_24 (by omega)) h_17 (by omega) (by omega) (by omega) (by omega) (by omega)
        · refine zH_bd (tX10_await hp0 h (by omega) (by omega) (by omega) (by omega)) (fun μ_26 p_27 => ?_)
          have h_28 : J w L M μ_26 := p_27
          refine zH_lt (fun x_29 e_30 => ?_)
          have q_31 : x_29.toInt = (y3.toInt + (1 : Int)) := (congrArg Int32.toInt e_30).trans (iA (rfl : y3.toInt = _) (iL (1) (1) rfl) (by omega) (by omega))
          exact ih y1 y2 x_29 μ_26 (fun b_32 b_33 μ_34 h_35 c_36 => hk0 b_32 b_33 μ_34 h_35 (by omega)) h_28 (by omega) (by omega) (by omega) (by omega) (by omega)
theorem tX10_raise_l15 {w : Bool} {L : Int32} {M : gM} {p0 : Nat}  (hp0 : sW p0) : ∀ (n : Nat) (y1 : Int32) (y2 : Int32) (μ : gM), J w L M μ → 0 ≤ y2.toInt → y2.toInt ≤ 5 → 5 - y2.toInt < (n : Int) → zH (fX10_raise_l15 p0 n y1 y2 μ) (fun ν => J w L M ν) := by
  intro n
  induction n with
  | zero =>
    intro y1 y2 μ  h g0 g1 gm
    exact absurd gm (by omega)
  | succ n ih =>
    intro y1 y2 μ  h g0 g1 gm
    rw [fX10_raise_l15]
    have f_2 : (0 : Int) ≤ (μ 5 2).toInt ∧ (μ 5 2).toInt ≤ 5 := h.rd (a := 5) rfl (by decide) 2
    refine zH_lec (rfl : (μ 5 2).toInt = _) (rfl : y2.toInt = _) (fun c_1 => ?_) (fun c_1 => ?_)
    · exact zH_some h
    · have q_3 : (0 : Int32).toInt = (0 : Int) := (iL (0) (0) rfl)
      exact tX10_raise_l30 hp0 100000 y1 y2 (0 : Int32) μ (fun b_4 b_5 μ_6 h_7 c_8 => ih b_4 b_5 μ_6 h_7 (by omega) (by omega) (by omega)) h (by omega) (by omega) (by omega) (by omega) (by omega)
theorem tX10_raise {w : Bool} {L : Int32} {M : gM} {p0 : Nat} {a1 : Int32} {μ : gM} (hp0 : sW p0) (h : J w L M μ)  : zH (fX10_raise p0 a1 μ) (fun ν => J w L M ν) := by
  unfold fX10_raise
  refine zH_lt (fun μ_1 e_2 => ?_)
  have h_3 : J w L M μ_1 := by rw [e_2]; exact J.upf h (a := p0) (k := (0, 9)) (hp0.1.1 0 (by decide)) (fx34 (by have := hp0.1.2.2; omega) (by have := hp0.1.2.1; omega)) (by decide) (by decide) (Or.inl (by have := hp0.1.2.2; omega)) rfl
  have q_4 : (0 : Int32).toInt = (0 : Int) := (iL (0) (0) rfl)
  exact zH_mono (tX10_raise_l15 hp0 100000 a1 (0 : Int32) μ_1 h_3 (by omega) (by omega) (by omega)) (fun r_6 p_5 => p_5)
theorem tX10_sayFarewell_l55 {w : Bool} {L : Int32} {M : gM} {p0 : Nat}  (hp0 : sW p0) : ∀ (n : Nat) (y1 : Int32) (y3 : Int32) (y4 : Int32) (μ : gM), J w L M μ → 0 ≤ y1.toInt → y1.toInt ≤ 4 → 0 ≤ y4.toInt → y4.toInt ≤ 6 → 6 - y4.toInt < (n : Int) → zH (fX10_sayFarewell_l55 p0 n y1 y3 y4 μ) (fun ν => J w L M ν) := by
  intro n
  induction n with
  | zero =>
    intro y1 y3 y4 μ  h g0 g1 g2 g3 gm
    exact absurd gm (by omega)
  | succ n ih =>
    intro y1 y3 y4 μ  h g0 g1 g2 g3 gm
    rw [fX10_sayFarewell_l55]
    refine zH_lec (iL (6) (6) rfl) (rfl : y4.toInt = _) (fun c_1 => ?_) (fun c_1 => ?_)
    · exact zH_some h
    · refine zH_lt (fun x_2 e_3 => ?_)
      have q_4 : x_2.toInt = ((y1.toInt * (6 : Int)) + y4.toInt) := (congrArg Int32.toInt e_3).trans (iA (iM (rfl : y1.toInt = _) (iL (6) (6) rfl) (by omega) (by omega)) (rfl : y4.toInt = _) (by omega) (by omega))
      refine zH_eqc (rfl : ((y3 >>> (y4 &&& 31)) &&& (1 : Int32)).toInt = _) (iL (1) (1) rfl) (fun c_5e c_5 => ?_) (fun c_5e c_5 => ?_)
      · refine zH_ck (zIn (rfl : x_2.toInt = _) (by omega) (by omega)) ?_
        refine zH_ck (zIn (rfl : x_2.toInt = _) (by omega) (by omega)) ?_
        refine zH_ck (zIn (rfl : x_2.toInt = _) (by omega) (by omega)) ?_
        refine zH_lt (fun μ_6 e_7 => ?_)
        have h_8 : J w L M μ_6 := by rw [e_7]; exact J.upf h (a := (p0 + 12)) (k := (1, 30)) (hp0.1.1 12 (by decide)) (fx34 (by have := hp0.1.2.2; omega) (by have := hp0.1.2.1; omega)) (by decide) (by decide) (Or.inl (by have := hp0.1.2.2; omega)) rfl
        refine zH_lt (fun x_9 e_10 => ?_)
        have q_11 : x_9.toInt = (y4.toInt + (1 : Int)) := (congrArg Int32.toInt e_10).trans (iA (rfl : y4.toInt = _) (iL (1) (1) rfl) (by omega) (by omega))
        exact ih y1 y3 x_9 μ_6 h_8 (by omega) (by omega) (by omega) (by omega) (by omega)
      · refine zH_lt (fun x_12 e_13 => ?_)
        have q_14 : x_12.toInt = (y4.toInt + (1 : Int)) := (congrArg Int32.toInt e_13).trans (iA (rfl : y4.toInt = _) (iL (1) (1) rfl) (by omega) (by omega))
        exact ih y1 y3 x_12 μ h (by omega) (by omega) (by omega) (by omega) (by omega)
theorem tX10_sayFarewell {w : Bool} {L : Int32} {M : gM} {p0 : Nat} {a1 : Int32} {a2 : Int32} {μ : gM} (hp0 : sW p0) (h : J w L M μ) (g0 : 0 ≤ a1.toInt) (g1 : a1.toInt ≤ 4) : zH (fX10_sayFarewell p0 a1 a2 μ) (fun ν => J w L M ν) := by
  unfold fX10_sayFarewell
  refine zH_lt (fun μ_1 e_2 => ?_)
  have h_3 : J w L M μ_1 := by rw [e_2]; exact J.upf h (a := p0) (k := (0, 9)) (hp0.1.1 0 (by decide)) (fx34 (by have := hp0.1.2.2; omega) (by have := hp0.1.2.1; omega)) (by decide) (by decide) (Or.inl (by have := hp0.1.2.2; omega)) rfl
  refine zH_ck (zIn (rfl : a1.toInt = _) (by omega) (by omega)) ?_
  refine zH_bd (tX9_beside) (fun x_4 p_5 => ?_)
  refine zH_ck (zIn (rfl : a1.toInt = _) (by omega) (by omega)) ?_
  refine zH_lt (fun x_6 e_7 => ?_)
  have q_8 : (0 : Int32).toInt = (0 : Int) := (iL (0) (0) rfl)
  exact zH_mono (tX10_sayFarewell_l55 hp0 100000 a1 x_6 (0 : Int32) μ_1 h_3 (by omega) (by omega) (by omega) (by omega) (by omega)) (fun r_10 p_9 => p_9)
theorem tX10_lower_l22 {w : Bool} {L : Int32} {M : gM} {p0 : Nat}  (hp0 : sW p0) : ∀ (n : Nat) (y1 : Int32) (y2 : Int32) (y3 : Int32) (y4 : Int32) (μ : gM), J w L M μ → 0 ≤ y1.toInt → y1.toInt ≤ 5 → 0 ≤ y4.toInt → y4.toInt ≤ 5 → 5 - y4.toInt < (n : Int) → zH (fX10_lower_l22 p0 n y1 y2 y3 y4 μ) (fun r => J w L M r.2) := by
  intro n
  induction n with
  | zero =>
    intro y1 y2 y3 y4 μ  h g0 g1 g2 g3 gm
    exact absurd gm (by omega)
  | succ n ih =>
    intro y1 y2 y3 y4 μ  h g0 g1 g2 g3 gm
    rw [fX10_lower_l22]
    have f_2 : (0 : Int) ≤ (μ 5 2).toInt ∧ (μ 5 2).toInt ≤ 5 := h.rd (a := 5) rfl (by decide) 2
    refine zH_lec (rfl : (μ 5 2).toInt = _) (rfl : y4.toInt = _) (fun c_1 => ?_) (fun c_1 => ?_)
    · exact zH_some h
    · refine zH_bd (tX9_isHeld (by omega) (by omega)) (fun x_3 p_4 => ?_)
      have q_5 : x_3.toInt = 0 ∨ x_3.toInt = 1 := p_4
      refine zH_eqc (rfl : x_3.toInt = _) (iL (0) (0) rfl) (fun c_6e c_6 => ?_) (fun c_6e c_6 => ?_)
      · unfold fX10_lower_n102
        refine zH_ck (zIn (iA (iM (rfl : y4.toInt = _) (iL (6) (6) rfl) (by omega) (by omega)) (rfl : y1.toInt = _) (by omega) (by omega)) (by omega) (by omega)) ?_
        refine zH_lt (fun μ_7 e_8 => ?_)
        have h_9 : J w L M μ_7 := by rw [e_8]; exact J.upf h (a := (p0 + 12)) (k := (1, 30)) (hp0.1.1 12 (by decide)) (fx34 (by have := hp0.1.2.2; omega) (by have := hp0.1.2.1; omega)) (by decide) (by decide) (Or.inl (by have := hp0.1.2.2; omega)) rfl
        refine zH_ck (zIn (iA (iM (rfl : y4.toInt = _) (iL (6) (6) rfl) (by omega) (by omega)) (rfl : y1.toInt = _) (by omega) (by omega)) (by omega) (by omega)) ?_
        refine zH_lt (fun μ_10 e_11 => ?_)
        have h_12 : J w L M μ_10 := by rw [e_11]; exact J.upf h_9 (a := (p0 + 13)) (k := (1, 30)) (hp0.1.1 13 (by decide)) (fx34 (by have := hp0.1.2.2; omega) (by have := hp0.1.2.1; omega)) (by decide) (by decide) (Or.inl (by have := hp0.1.2.2; omega)) rfl
        refine zH_lt (fun x_13 e_14 => ?_)
        have q_15 : x_13.toInt = (y4.toInt + (1 : Int)) := (congrArg Int32.toInt e_14).trans (iA (rfl : y4.toInt = _) (iL (1) (1) rfl) (by omega) (by omega))
        exact ih y1 y2 y3 x_13 μ_10 h_12 (by omega) (by omega) (by omega) (by omega) (by omega)
      · refine zH_lt (fun x_16 e_17 => ?_)
        refine zH_ck (zIn (rfl : y4.toInt = _) (by omega) (by omega)) ?_
        refine zH_ck (zIn (rfl : y4.toInt = _) (by omega) (by omega)) ?_
        refine zH_lt (fun μ_18 e_19 => ?_)
        have h_20 : J w L M μ_18 := by rw [e_19]; exact J.upf h (a := (p0 + 5)) (k := (1, 5)) (hp0.1.1 5 (by decide)) (fx34 (by have := hp0.1.2.2; omega) (by have := hp0.1.2.1; omega)) (by decide) (by decide) (Or.inl (by have := hp0.1.2.2; omega)) rfl
        have q_21 : (2 : Int32).toInt = (2 : Int) := (iL (2) (2) rfl)
        refine zH_bd (tX0_add (hp0.1).c h_20) (fun μ_22 p_23 => ?_)
        have h_24 : J w L M μ_22 := p_23
        refine zH_eqc (rfl : y2.toInt = _) (iL (0) (0) rfl) (fun c_25e c_25 => ?_) (fun c_25e c_25 => ?_)
        · unfold fX10_lower_n102
          refine zH_ck (zIn (iA (iM (rfl : y4.toInt = _) (iL (6) (6) rfl) (by omega) (by omega)) (rfl : y1.toInt = _) (by omega) (by omega)) (by omega) (by omega)) ?_
          refine zH_lt (fun μ_26 e_27 => ?_)
          have h_28 : J w L M μ_26 := by rw [e_27]; exact J.upf h_24 (a := (p0 + 12)) (k := (1, 30)) (hp0.1.1 12 (by decide)) (fx34 (by have := hp0.1.2.2; omega) (by have := hp0.1.2.1; omega)) (by decide) (by decide) (Or.inl (by have := hp0.1.2.2; omega)) rfl
          refine zH_ck (zIn (iA (iM (rfl : y4.toInt = _) (iL (6) (6) rfl) (by omega) (by omega)) (rfl : y1.toInt = _) (by omega) (by omega)) (by omega) (by omega)) ?_
          refine zH_lt (fun μ_29 e_30 => ?_)
          have h_31 : J w L M μ_29 := by rw [e_30]; exact J.upf h_28 (a := (p0 + 13)) (k := (1, 30)) (hp0.1.1 13 (by decide)) (fx34 (by have := hp0.1.2.2; omega) (by have := hp0.1.2.1; omega)) (by decide) (by decide) (Or.inl (by have := hp0.1.2.2; omega)) rfl
          refine zH_lt (fun x_32 e_33 => ?_)
          have q_34 : x_32.toInt = (y4.toInt + (1 : Int)) := (congrArg Int32.toInt e_33).trans (iA (rfl : y4.toInt = _) (iL (1) (1) rfl) (by omega) (by omega))
          exact ih y1 y2 x_16 x_32 μ_29 h_31 (by omega) (by omega) (by omega) (by omega) (by omega)
        · refine zH_bd (tX10_sayFarewell hp0 h_24 (by omega) (by omega)) (fun μ_35 p_36 => ?_)
          have h_37 : J w L M μ_35 := p_36
          unfold fX10_lower_n102
          refine zH_ck (zIn (iA (iM (rfl : y4.toInt = _) (iL (6) (6) rfl) (by omega) (by omega)) (rfl : y1.toInt = _) (by omega) (by omega)) (by omega) (by omega)) ?_
          refine zH_lt (fun μ_38 e_39 => ?_)
          have h_40 : J w L M μ_38 := by rw [e_39]; exact J.upf h_37 (a := (p0 + 12)) (k := (1, 30)) (hp0.1.1 12 (by decide)) (fx34 (by have := hp0.1.2.2; omega) (by have := hp0.1.2.1; omega)) (by decide) (by decide) (Or.inl (by have := hp0.1.2.2; omega)) rfl
          refine zH_ck (zIn (iA (iM (rfl : y4.toInt = _) (iL (6) (6) rfl) (by omega) (by omega)) (rfl : y1.toInt = _) (by omega) (by omega)) (by omega) (by omega)) ?_
          refine zH_lt (fun μ_41 e_42 => ?_)
          have h_43 : J w L M μ_41 := by rw [e_42]; exact J.upf h_40 (a := (p0 + 13)) (k := (1, 30)) (hp0.1.1 13 (by decide)) (fx34 (by have := hp0.1.2.2; omega) (by have := hp0.1.2.1; omega)) (by decide) (by decide) (Or.inl (by have := hp0.1.2.2; omega)) rfl
          refine zH_lt (fun x_44 e_45 => ?_)
          have q_46 : x_44.toInt = (y4.toInt + (1 : Int)) := (congrArg Int32.toInt e_45).trans (iA (rfl : y4.toInt = _) (iL (1) (1) rfl) (by omega) (by omega))
          exact ih y1 y2 x_16 x_44 μ_41 h_43 (by omega) (by omega) (by omega) (by omega) (by omega)
theorem tX10_lower {w : Bool} {L : Int32} {M : gM} {p0 : Nat} {a1 : Int32} {a2 : Int32} {μ : gM} (hp0 : sW p0) (h : J w L M μ) (g0 : 0 ≤ a1.toInt) (g1 : a1.toInt ≤ 5) : zH (fX10_lower p0 a1 a2 μ) (fun r => J w L M r.2) := by
  unfold fX10_lower
  refine zH_lt (fun μ_1 e_2 => ?_)
  have h_3 : J w L M μ_1 := by rw [e_2]; exact J.upf h (a := p0) (k := (0, 9)) (hp0.1.1 0 (by decide)) (fx34 (by have := hp0.1.2.2; omega) (by have := hp0.1.2.1; omega)) (by decide) (by decide) (Or.inl (by have := hp0.1.2.2; omega)) rfl
  have q_4 : (0 : Int32).toInt = (0 : Int) := (iL (0) (0) rfl)
  exact zH_mono (tX10_lower_l22 hp0 100000 a1 a2 (0 : Int32) (0 : Int32) μ_1 h_3 (by omega) (by omega) (by omega) (by omega) (by omega)) (fun r_6 p_5 => p_5)
theorem tX10_weigh {w : Bool} {L : Int32} {M : gM} {p0 : Nat} {a1 : Int32} {μ : gM} (hp0 : sW p0) (h : J w L M μ) (g0 : 0 ≤ a1.toInt) (g1 : a1.toInt ≤ 29) : zH (fX10_weigh p0 a1 μ) (fun ν => J w L M ν) := by
  unfold fX10_weigh
  refine zH_ck (zIn (rfl : a1.toInt = _) (by omega) (by omega)) ?_
  refine zH_bd (tX1_weightOf) (fun x_1 p_2 => ?_)
  refine zH_ck (zIn (rfl : a1.toInt = _) (by omega) (by omega)) ?_
  refine zH_lt (fun μ_3 e_4 => ?_)
  have h_5 : J w L M μ_3 := by rw [e_4]; exact J.upf h (a := (p0 + 10)) (k := (1, 30)) (hp0.1.1 10 (by decide)) (fx34 (by have := hp0.1.2.2; omega) (by have := hp0.1.2.1; omega)) (by decide) (by decide) (Or.inl (by have := hp0.1.2.2; omega)) rfl
  refine zH_ck (zIn (iD6 (rfl : a1.toInt = _) (by omega)) (by omega) (by omega)) ?_
  refine zH_ck (zIn (rfl : a1.toInt = _) (by omega) (by omega)) ?_
  refine zH_lt (fun μ_6 e_7 => ?_)
  have h_8 : J w L M μ_6 := by rw [e_7]; exact J.upf h_5 (a := (p0 + 11)) (k := (1, 30)) (hp0.1.1 11 (by decide)) (fx34 (by have := hp0.1.2.2; omega) (by have := hp0.1.2.1; omega)) (by decide) (by decide) (Or.inl (by have := hp0.1.2.2; omega)) rfl
  exact zH_some h_8
theorem tX10_setCuts_l10 {w : Bool} {L : Int32} {M : gM} {p0 : Nat}  (hp0 : sW p0) : ∀ (n : Nat) (y2 : Int32) (μ : gM), J w L M μ → 0 ≤ y2.toInt → y2.toInt ≤ 30 → 30 - y2.toInt < (n : Int) → zH (fX10_setCuts_l10 p0 n y2 μ) (fun ν => J w L M ν) := by
  intro n
  induction n with
  | zero =>
    intro y2 μ  h g0 g1 gm
    exact absurd gm (by omega)
  | succ n ih =>
    intro y2 μ  h g0 g1 gm
    rw [fX10_setCuts_l10]
    refine zH_lec (iL (30) (30) rfl) (rfl : y2.toInt = _) (fun c_1 => ?_) (fun c_1 => ?_)
    · exact zH_some h
    · refine zH_bd (tX10_weigh hp0 h (by omega) (by omega)) (fun μ_2 p_3 => ?_)
      have h_4 : J w L M μ_2 := p_3
      refine zH_lt (fun x_5 e_6 => ?_)
      have q_7 : x_5.toInt = (y2.toInt + (1 : Int)) := (congrArg Int32.toInt e_6).trans (iA (rfl : y2.toInt = _) (iL (1) (1) rfl) (by omega) (by omega))
      exact ih x_5 μ_2 h_4 (by omega) (by omega) (by omega)
theorem tX10_setCuts {w : Bool} {L : Int32} {M : gM} {p0 : Nat} {a1 : Int32} {μ : gM} (hp0 : sW p0) (h : J w L M μ)  : zH (fX10_setCuts p0 a1 μ) (fun ν => J w L M ν) := by
  unfold fX10_setCuts
  refine zH_lt (fun μ_1 e_2 => ?_)
  have h_3 : J w L M μ_1 := by rw [e_2]; exact J.upf h (a := p0) (k := (0, 9)) (hp0.1.1 0 (by decide)) (fx34 (by have := hp0.1.2.2; omega) (by have := hp0.1.2.1; omega)) (by decide) (by decide) (Or.inl (by have := hp0.1.2.2; omega)) rfl
  have q_4 : (0 : Int32).toInt = (0 : Int) := (iL (0) (0) rfl)
  exact zH_mono (tX10_setCuts_l10 hp0 100000 (0 : Int32) μ_1 h_3 (by omega) (by omega) (by omega)) (fun r_6 p_5 => p_5)
theorem tX10_tell {w : Bool} {L : Int32} {M : gM} {p0 : Nat} {a1 : Int32} {a2 : Int32} {a3 : Int32} {μ : gM} (hp0 : sW p0) (h : J w L M μ)  : zH (fX10_tell p0 a1 a2 a3 μ) (fun ν => J w L M ν) := by
  unfold fX10_tell
  refine zH_bd (tX1_isMember h.nb4) (fun x_1 p_2 => ?_)
  have q_3 : (x_1.toInt = 0 ∨ x_1.toInt = 1) ∧ (x_1.toInt = 1 → 0 ≤ a1.toInt ∧ a1.toInt ≤ 4 ∧ 0 ≤ a2.toInt ∧ a2.toInt ≤ 5) := p_2
  refine zH_eqc (rfl : x_1.toInt = _) (iL (0) (0) rfl) (fun c_4e c_4 => ?_) (fun c_4e c_4 => ?_)
  · exact zH_some h
  · refine zH_ck (zIn (iA (iM (rfl : a1.toInt = _) (iL (6) (6) rfl) (by omega) (by omega)) (rfl : a2.toInt = _) (by omega) (by omega)) (by omega) (by omega)) ?_
    refine zH_lt (fun μ_5 e_6 => ?_)
    have h_7 : J w L M μ_5 := by rw [e_6]; exact J.upf h (a := (p0 + 9)) (k := (1, 30)) (hp0.1.1 9 (by decide)) (fx34 (by have := hp0.1.2.2; omega) (by have := hp0.1.2.1; omega)) (by decide) (by decide) (Or.inl (by have := hp0.1.2.2; omega)) rfl
    have q_8 : ((a1 * (6 : Int32)) + a2).toInt = ((a1.toInt * (6 : Int)) + a2.toInt) := (iA (iM (rfl : a1.toInt = _) (iL (6) (6) rfl) (by omega) (by omega)) (rfl : a2.toInt = _) (by omega) (by omega))
    refine zH_bd (tX10_weigh hp0 h_7 (by omega) (by omega)) (fun μ_9 p_10 => ?_)
    have h_11 : J w L M μ_9 := p_10
    exact zH_some h_11
theorem tX10_happen_l8 {w : Bool} {L : Int32} {M : gM} {p0 : Nat}  (hp0 : sW p0) : ∀ (n : Nat) (y1 : Int32) (μ : gM), J w L M μ → 0 ≤ y1.toInt → max 0 (20 - y1.toInt) < (n : Int) → zH (fX10_happen_l8 p0 n y1 μ) (fun ν => J w L M ν) := by
  intro n
  induction n with
  | zero =>
    intro y1 μ  h g0 gm
    exact absurd gm (by omega)
  | succ n ih =>
    intro y1 μ  h g0 gm
    rw [fX10_happen_l8]
    have f_2 : (0 : Int) ≤ (μ (p0 + 1) 0).toInt ∧ (μ (p0 + 1) 0).toInt ≤ 20 := h.rd (a := (p0 + 1)) (hp0.1.1 1 (by decide)) (by have := hp0.1.2.1; omega) 0
    refine zH_lec (rfl : (μ (p0 + 1) 0).toInt = _) (rfl : y1.toInt = _) (fun c_1 => ?_) (fun c_1 => ?_)
    · exact zH_some h
    · refine zH_bd (tX5_at (by omega) (by omega)) (fun x_3 p_4 => ?_)
      refine zH_eqc (rfl : x_3.toInt = _) (rfl : (μ p0 0).toInt = _) (fun c_5e c_5 => ?_) (fun c_5e c_5 => ?_)
      · have q_9 : (y1 + (1 : Int32)).toInt = (y1.toInt + (1 : Int)) := (iA (rfl : y1.toInt = _) (iL (1) (1) rfl) (by omega) (by omega))
        refine zH_lt (fun μ_6 e_7 => ?_)
        have h_8 : J w L M μ_6 := by rw [e_7]; exact J.up h (a := p0) (k := (0, 9)) (hp0.1.1 0 (by decide)) (fx34 (by have := hp0.1.2.2; omega) (by have := hp0.1.2.1; omega)) (by decide) (by decide) (Or.inl (by have := hp0.1.2.2; omega)) (show (0 : Int) ≤ (y1 + (1 : Int32)).toInt ∧ (y1 + (1 : Int32)).toInt ≤ 2147483647 from by have q_10 : (y1 + (1 : Int32)).toInt = (y1.toInt + (1 : Int)) := (iA (rfl : y1.toInt = _) (iL (1) (1) rfl) (by omega) (by omega)); omega)
        have q_11 : (μ_6 (p0 + 1) 0).toInt = (μ (p0 + 1) 0).toInt := by rw [e_7, zUp_ne _ (by omega)]
        refine zH_lt (fun x_12 e_13 => ?_)
        have q_14 : x_12.toInt = (y1.toInt * (5 : Int)) := (congrArg Int32.toInt e_13).trans (iM (rfl : y1.toInt = _) (iL (5) (5) rfl) (by omega) (by omega))
        refine zH_ck (zIn (iA (rfl : x_12.toInt = _) (iL (2) (2) rfl) (by omega) (by omega)) (by omega) (by omega)) ?_
        refine zH_lt (fun x_15 e_16 => ?_)
        refine zH_ck (zIn (iA (rfl : x_12.toInt = _) (iL (1) (1) rfl) (by omega) (by omega)) (by omega) (by omega)) ?_
        refine zH_lt (fun x_17 e_18 => ?_)
        refine zH_eqc (rfl : x_17.toInt = _) (iL (0) (0) rfl) (fun c_19e c_19 => ?_) (fun c_19e c_19 => ?_)
        · refine zH_bd (tX10_raise hp0 h_8) (fun μ_20 p_21 => ?_)
          have h_22 : J w L M μ_20 := p_21
          refine zH_lt (fun x_23 e_24 => ?_)
          have q_25 : x_23.toInt = (y1.toInt + (1 : Int)) := (congrArg Int32.toInt e_24).trans (iA (rfl : y1.toInt = _) (iL (1) (1) rfl) (by omega) (by omega))
          exact ih x_23 μ_20 h_22 (by omega) (by omega)
        · refine zH_eqc (rfl : x_17.toInt = _) (iL (1) (1) rfl) (fun c_26e c_26 => ?_) (fun c_26e c_26 => ?_)
          · have q_27 : (0 : Int32).toInt = (0 : Int) := (iL (0) (0) rfl)
            have pr := h_8.pr hp0.1 (x := x_12) (k := y1.toInt) (by omega) (by omega) (by omega) (by rw [← e_18]; omega)
            rw [← e_16] at pr
            refine zH_bp (tX10_lower hp0 h_8 pr.1 pr.2) (fun x_28 μ_29 p_30 => ?_)
            have h_31 : J w L M μ_29 := p_30
            refine zH_lt (fun x_32 e_33 => ?_)
            have q_34 : x_32.toInt = (y1.toInt + (1 : Int)) := (congrArg Int32.toInt e_33).trans (iA (rfl : y1.toInt = _) (iL (1) (1) rfl) (by omega) (by omega))
            exact ih x_32 μ_29 h_31 (by omega) (by omega)
          · refine zH_eqc (rfl : x_17.toInt = _) (iL (2) (2) rfl) (fun c_35e c_35 => ?_) (fun c_35e c_35 => ?_)
            · refine zH_bd (tX10_setCuts hp0 h_8) (fun μ_36 p_37 => ?_)
              have h_38 : J w L M μ_36 := p_37
              refine zH_lt (fun x_39 e_40 => ?_)
              have q_41 : x_39.toInt = (y1.toInt + (1 : Int)) := (congrArg Int32.toInt e_40).trans (iA (rfl : y1.toInt = _) (iL (1) (1) rfl) (by omega) (by omega))
              exact ih x_39 μ_36 h_38 (by omega) (by omega)
            · refine zH_eqc (rfl : x_17.toInt = _) (iL (3) (3) rfl) (fun c_42e c_42 => ?_) (fun c_42e c_42 => ?_)
              · refine zH_bd (tX10_setCuts hp0 h_8) (fun μ_43 p_44 => ?_)
                have h_45 : J w L M μ_43 := p_44
                refine zH_lt (fun x_46 e_47 => ?_)
                have q_48 : x_46.toInt = (y1.toInt + (1 : Int)) := (congrArg Int32.toInt e_47).trans (iA (rfl : y1.toInt = _) (iL (1) (1) rfl) (by omega) (by omega))
                exact ih x_46 μ_43 h_45 (by omega) (by omega)
              · refine zH_eqc (rfl : x_17.toInt = _) (iL (4) (4) rfl) (fun c_49e c_49 => ?_) (fun c_49e c_49 => ?_)
                · refine zH_lt (fun μ_50 e_51 => ?_)
                  have h_52 : J w L M μ_50 := by rw [e_51]; exact J.upf h_8 (a := p0) (k := (0, 9)) (hp0.1.1 0 (by decide)) (fx34 (by have := hp0.1.2.2; omega) (by have := hp0.1.2.1; omega)) (by decide) (by decide) (Or.inl (by have := hp0.1.2.2; omega)) rfl
                  have q_53 : (μ_50 (p0 + 1) 0).toInt = (μ_6 (p0 + 1) 0).toInt := by rw [e_51, zUp_ne _ (by omega)]
                  refine zH_lt (fun x_54 e_55 => ?_)
                  have q_56 : x_54.toInt = (y1.toInt + (1 : Int)) := (congrArg Int32.toInt e_55).trans (iA (rfl : y1.toInt = _) (iL (1) (1) rfl) (by omega) (by omega))
                  exact ih x_54 μ_50 h_52 (by omega) (by omega)
                · refine zH_eqc (rfl : x_17.toInt = _) (iL (5) (5) rfl) (fun c_57e c_57 => ?_) (fun c_57e c_57 => ?_)
                  · refine zH_lt (fun μ_58 e_59 => ?_)
                    have h_60 : J w L M μ_58 := by rw [e_59]; exact J.upf h_8 (a := p0) (k := (0, 9)) (hp0.1.1 0 (by decide)) (fx34 (by have := hp0.1.2.2; omega) (by have := hp0.1.2.1; omega)) (by decide) (by decide) (Or.inl (by have := hp0.1.2.2; omega)) rfl
                    have q_61 : (μ_58 (p0 + 1) 0).toInt = (μ_6 (p0 + 1) 0).toInt := by rw [e_59, zUp_ne _ (by omega)]
                    refine zH_lt (fun x_62 e_63 => ?_)
                    have q_64 : x_62.toInt = (y1.toInt + (1 : Int)) := (congrArg Int32.toInt e_63).trans (iA (rfl : y1.toInt = _) (iL (1) (1) rfl) (by omega) (by omega))
                    exact ih x_62 μ_58 h_60 (by omega) (by omega)
                  · refine zH_eqc (rfl : x_17.toInt = _) (iL (6) (6) rfl) (fun c_65e c_65 => ?_) (fun c_65e c_65 => ?_)
                    · refine zH_ck (zIn (iA (rfl : x_12.toInt = _) (iL (3) (3) rfl) (by omega) (by omega)) (by omega) (by omega)) ?_
                      refine zH_ck (zIn (iA (rfl : x_12.toInt = _) (iL (4) (4) rfl) (by omega) (by omega)) (by omega) (by omega)) ?_
                      refine zH_bd (tX10_tell hp0 h_8) (fun μ_66 p_67 => ?_)
                      have h_68 : J w L M μ_66 := p_67
                      refine zH_lt (fun x_69 e_70 => ?_)
                      have q_71 : x_69.toInt = (y1.toInt + (1 : Int)) := (congrArg Int32.toInt e_70).trans (iA (rfl : y1.toInt = _) (iL (1) (1) rfl) (by omega) (by omega))
                      exact ih x_69 μ_66 h_68 (by omega) (by omega)
                    · refine zH_lt (fun x_72 e_73 => ?_)
                      have q_74 : x_72.toInt = (y1.toInt + (1 : Int)) := (congrArg Int32.toInt e_73).trans (iA (rfl : y1.toInt = _) (iL (1) (1) rfl) (by omega) (by omega))
                      exact ih x_72 μ_6 h_8 (by omega) (by omega)
      · exact zH_some h
theorem tX10_happen {w : Bool} {L : Int32} {M : gM} {p0 : Nat} {μ : gM} (hp0 : sW p0) (h : J w L M μ)  : zH (fX10_happen p0 μ) (fun ν => J w L M ν) := by
  unfold fX10_happen
  have f_3 : (0 : Int) ≤ (μ p0 8).toInt ∧ (μ p0 8).toInt ≤ 2147483647 := h.rd (a := p0) (hp0.1.1 0 (by decide)) (by have := hp0.1.2.1; omega) 8
  refine zH_lt (fun x_1 e_2 => ?_)
  have q_4 : x_1.toInt = (μ p0 8).toInt := (congrArg Int32.toInt e_2).trans (rfl : (μ p0 8).toInt = _)
  exact zH_mono (tX10_happen_l8 hp0 100000 x_1 μ h (by omega) (by omega)) (fun r_6 p_5 => p_5)
theorem tX10_send_l23 {w : Bool} {L : Int32} {M : gM} {p0 : Nat}  (hp0 : sW p0) : ∀ (n : Nat) (y1 : Int32) (y2 : Int32) (y3 : Int32) (y4 : Int32) (μ : gM), J w L M μ → 0 ≤ y1.toInt → y1.toInt ≤ 4 → 0 ≤ y4.toInt → y4.toInt ≤ 6 → 6 - y4.toInt < (n : Int) → zH (fX10_send_l23 p0 n y1 y2 y3 y4 μ) (fun r => J w L M r.2) := by
  intro n
  induction n with
  | zero =>
    intro y1 y2 y3 y4 μ  h g0 g1 g2 g3 gm
    exact absurd gm (by omega)
  | succ n ih =>
    intro y1 y2 y3 y4 μ  h g0 g1 g2 g3 gm
    rw [fX10_send_l23]
    refine zH_lec (iL (6) (6) rfl) (rfl : y4.toInt = _) (fun c_1 => ?_) (fun c_1 => ?_)
    · exact zH_some h
    · refine zH_lt (fun x_2 e_3 => ?_)
      have q_4 : x_2.toInt = ((y1.toInt * (6 : Int)) + y4.toInt) := (congrArg Int32.toInt e_3).trans (iA (iM (rfl : y1.toInt = _) (iL (6) (6) rfl) (by omega) (by omega)) (rfl : y4.toInt = _) (by omega) (by omega))
      refine zH_eqc (rfl : ((y3 >>> (y4 &&& 31)) &&& (1 : Int32)).toInt = _) (iL (0) (0) rfl) (fun c_5e c_5 => ?_) (fun c_5e c_5 => ?_)
      · refine zH_lt (fun x_6 e_7 => ?_)
        have q_8 : x_6.toInt = (y4.toInt + (1 : Int)) := (congrArg Int32.toInt e_7).trans (iA (rfl : y4.toInt = _) (iL (1) (1) rfl) (by omega) (by omega))
        exact ih y1 y2 y3 x_6 μ h (by omega) (by omega) (by omega) (by omega) (by omega)
      · refine zH_ck (zIn (rfl : x_2.toInt = _) (by omega) (by omega)) ?_
        refine zH_lec (rfl : (μ (p0 + 12) (x_2).toNatClampNeg).toInt = _) (iL (0) (0) rfl) (fun c_9 => ?_) (fun c_9 => ?_)
        · refine zH_bd (tX9_isHeld (by omega) (by omega)) (fun x_10 p_11 => ?_)
          have q_12 : x_10.toInt = 0 ∨ x_10.toInt = 1 := p_11
          refine zH_eqc (rfl : x_10.toInt = _) (iL (0) (0) rfl) (fun c_13e c_13 => ?_) (fun c_13e c_13 => ?_)
          · refine zH_bd (tX10_hold hp0 h (by omega) (by omega) (by omega) (by omega)) (fun μ_14 p_15 => ?_)
            have h_16 : J w L M μ_14 := p_15
            unfold fX10_send_n84
            refine zH_ck (zIn (rfl : y1.toInt = _) (by omega) (by omega)) ?_
            refine zH_ck (zIn (rfl : x_2.toInt = _) (by omega) (by omega)) ?_
            refine zH_lt (fun μ_17 e_18 => ?_)
            have h_19 : J w L M μ_17 := by rw [e_18]; exact J.upf h_16 (a := (p0 + 12)) (k := (1, 30)) (hp0.1.1 12 (by decide)) (fx34 (by have := hp0.1.2.2; omega) (by have := hp0.1.2.1; omega)) (by decide) (by decide) (Or.inl (by have := hp0.1.2.2; omega)) rfl
            refine zH_lt (fun μ_20 e_21 => ?_)
            have h_22 : J w L M μ_20 := by rw [e_21]; exact J.upf h_19 (a := p0) (k := (0, 9)) (hp0.1.1 0 (by decide)) (fx34 (by have := hp0.1.2.2; omega) (by have := hp0.1.2.1; omega)) (by decide) (by decide) (Or.inl (by have := hp0.1.2.2; omega)) rfl
            refine zH_lt (fun x_23 e_24 => ?_)
            refine zH_lt (fun x_25 e_26 => ?_)
            have q_27 : x_25.toInt = (y4.toInt + (1 : Int)) := (congrArg Int32.toInt e_26).trans (iA (rfl : y4.toInt = _) (iL (1) (1) rfl) (by omega) (by omega))
            exact ih y1 x_23 y3 x_25 μ_20 h_22 (by omega) (by omega) (by omega) (by omega) (by omega)
          · unfold fX10_send_n84
            refine zH_ck (zIn (rfl : y1.toInt = _) (by omega) (by omega)) ?_
            refine zH_ck (zIn (rfl : x_2.toInt = _) (by omega) (by omega)) ?_
            refine zH_lt (fun μ_28 e_29 => ?_)
            have h_30 : J w L M μ_28 := by rw [e_29]; exact J.upf h (a := (p0 + 12)) (k := (1, 30)) (hp0.1.1 12 (by decide)) (fx34 (by have := hp0.1.2.2; omega) (by have := hp0.1.2.1; omega)) (by decide) (by decide) (Or.inl (by have := hp0.1.2.2; omega)) rfl
            refine zH_lt (fun μ_31 e_32 => ?_)
            have h_33 : J w L M μ_31 := by rw [e_32]; exact J.upf h_30 (a := p0) (k := (0, 9)) (hp0.1.1 0 (by decide)) (fx34 (by have := hp0.1.2.2; omega) (by have := hp0.1.2.1; omega)) (by decide) (by decide) (Or.inl (by have := hp0.1.2.2; omega)) rfl
            refine zH_lt (fun x_34 e_35 => ?_)
            refine zH_lt (fun x_36 e_37 => ?_)
            have q_38 : x_36.toInt = (y4.toInt + (1 : Int)) := (congrArg Int32.toInt e_37).trans (iA (rfl : y4.toInt = _) (iL (1) (1) rfl) (by omega) (by omega))
            exact ih y1 x_34 y3 x_36 μ_31 h_33 (by omega) (by omega) (by omega) (by omega) (by omega)
        · refine zH_lt (fun x_39 e_40 => ?_)
          have q_41 : x_39.toInt = (y4.toInt + (1 : Int)) := (congrArg Int32.toInt e_40).trans (iA (rfl : y4.toInt = _) (iL (1) (1) rfl) (by omega) (by omega))
          exact ih y1 y2 y3 x_39 μ h (by omega) (by omega) (by omega) (by omega) (by omega)
theorem tX10_send {w : Bool} {L : Int32} {M : gM} {p0 : Nat} {a1 : Int32} {μ : gM} (hp0 : sW p0) (h : J w L M μ) (g0 : 0 ≤ a1.toInt) (g1 : a1.toInt ≤ 4) : zH (fX10_send p0 a1 μ) (fun r => J w L M r.2) := by
  unfold fX10_send
  refine zH_ck (zIn (rfl : a1.toInt = _) (by omega) (by omega)) ?_
  refine zH_lt (fun x_1 e_2 => ?_)
  have q_3 : (0 : Int32).toInt = (0 : Int) := (iL (0) (0) rfl)
  exact zH_mono (tX10_send_l23 hp0 100000 a1 (0 : Int32) x_1 (0 : Int32) μ h (by omega) (by omega) (by omega) (by omega) (by omega)) (fun r_5 p_4 => p_4)
theorem tX10_isLost {w : Bool} {L : Int32} {M : gM} {p0 : Nat} {μ : gM} (hp0 : sW p0) (h : J w L M μ)  : zH (fX10_isLost p0 μ) (fun r => J w L M r.2 ∧ (r.1.toInt = 0 ∨ r.1.toInt = 1)) := by
  unfold fX10_isLost
  refine zH_eqc (rfl : (μ p0 4).toInt = _) (iL (0) (0) rfl) (fun c_1e c_1 => ?_) (fun c_1e c_1 => ?_)
  · have q_2 : (0 : Int32).toInt = (0 : Int) := (iL (0) (0) rfl)
    exact zH_some ⟨h, show (0 : Int32).toInt = 0 ∨ (0 : Int32).toInt = 1 from by have q_3 : ((0 : Int32)).toInt = (0 : Int) := (iL (0) (0) rfl); omega⟩
  · refine zH_lt (fun μ_4 e_5 => ?_)
    have h_6 : J w L M μ_4 := by rw [e_5]; exact J.upf h (a := p0) (k := (0, 9)) (hp0.1.1 0 (by decide)) (fx34 (by have := hp0.1.2.2; omega) (by have := hp0.1.2.1; omega)) (by decide) (by decide) (Or.inl (by have := hp0.1.2.2; omega)) rfl
    refine zH_lec (rfl : (μ_4 p0 4).toInt = _) (rfl : (((μ_4 p0 5) / (64 : Int32)) - ((μ_4 p0 5) / (64 : Int32)) / (100 : Int32) * (100 : Int32)).toInt = _) (fun c_7 => ?_) (fun c_7 => ?_)
    · unfold fX10_isLost_n68
      refine zH_eqc (iL (0) (0) rfl) (iL (0) (0) rfl) (fun c_8e c_8 => ?_) (fun c_8e c_8 => ?_)
      · refine zH_lt (fun μ_9 e_10 => ?_)
        have h_11 : J w L M μ_9 := by rw [e_10]; exact J.upf h_6 (a := p0) (k := (0, 9)) (hp0.1.1 0 (by decide)) (fx34 (by have := hp0.1.2.2; omega) (by have := hp0.1.2.1; omega)) (by decide) (by decide) (Or.inl (by have := hp0.1.2.2; omega)) rfl
        refine zH_ck (zBo (show ((0 : Int32)).toInt = 0 ∨ ((0 : Int32)).toInt = 1 from by have q_12 : ((0 : Int32)).toInt = (0 : Int) := (iL (0) (0) rfl); omega)) ?_
        have q_13 : (0 : Int32).toInt = (0 : Int) := (iL (0) (0) rfl)
        exact zH_some ⟨h_11, show (0 : Int32).toInt = 0 ∨ (0 : Int32).toInt = 1 from by have q_14 : ((0 : Int32)).toInt = (0 : Int) := (iL (0) (0) rfl); omega⟩
      · refine zH_lt (fun μ_15 e_16 => ?_)
        have h_17 : J w L M μ_15 := by rw [e_16]; exact J.upf h_6 (a := p0) (k := (0, 9)) (hp0.1.1 0 (by decide)) (fx34 (by have := hp0.1.2.2; omega) (by have := hp0.1.2.1; omega)) (by decide) (by decide) (Or.inl (by have := hp0.1.2.2; omega)) rfl
        refine zH_ck (zBo (show ((0 : Int32)).toInt = 0 ∨ ((0 : Int32)).toInt = 1 from by have q_18 : ((0 : Int32)).toInt = (0 : Int) := (iL (0) (0) rfl); omega)) ?_
        have q_19 : (0 : Int32).toInt = (0 : Int) := (iL (0) (0) rfl)
        exact zH_some ⟨h_17, show (0 : Int32).toInt = 0 ∨ (0 : Int32).toInt = 1 from by have q_20 : ((0 : Int32)).toInt = (0 : Int) := (iL (0) (0) rfl); omega⟩
    · unfold fX10_isLost_n68
      refine zH_eqc (iL (1) (1) rfl) (iL (0) (0) rfl) (fun c_21e c_21 => ?_) (fun c_21e c_21 => ?_)
      · refine zH_lt (fun μ_22 e_23 => ?_)
        have h_24 : J w L M μ_22 := by rw [e_23]; exact J.upf h_6 (a := p0) (k := (0, 9)) (hp0.1.1 0 (by decide)) (fx34 (by have := hp0.1.2.2; omega) (by have := hp0.1.2.1; omega)) (by decide) (by decide) (Or.inl (by have := hp0.1.2.2; omega)) rfl
        refine zH_ck (zBo (show ((1 : Int32)).toInt = 0 ∨ ((1 : Int32)).toInt = 1 from by have q_25 : ((1 : Int32)).toInt = (1 : Int) := (iL (1) (1) rfl); omega)) ?_
        have q_26 : (1 : Int32).toInt = (1 : Int) := (iL (1) (1) rfl)
        exact zH_some ⟨h_24, show (1 : Int32).toInt = 0 ∨ (1 : Int32).toInt = 1 from by have q_27 : ((1 : Int32)).toInt = (1 : Int) := (iL (1) (1) rfl); omega⟩
      · refine zH_lt (fun μ_28 e_29 => ?_)
        have h_30 : J w L M μ_28 := by rw [e_29]; exact J.upf h_6 (a := p0) (k := (0, 9)) (hp0.1.1 0 (by decide)) (fx34 (by have := hp0.1.2.2; omega) (by have := hp0.1.2.1; omega)) (by decide) (by decide) (Or.inl (by have := hp0.1.2.2; omega)) rfl
        refine zH_ck (zBo (show ((1 : Int32)).toInt = 0 ∨ ((1 : Int32)).toInt = 1 from by have q_31 : ((1 : Int32)).toInt = (1 : Int) := (iL (1) (1) rfl); omega)) ?_
        have q_32 : (1 : Int32).toInt = (1 : Int) := (iL (1) (1) rfl)
        exact zH_some ⟨h_30, show (1 : Int32).toInt = 0 ∨ (1 : Int32).toInt = 1 from by have q_33 : ((1 : Int32)).toInt = (1 : Int) := (iL (1) (1) rfl); omega⟩
theorem tX10_giveUp {w : Bool} {L : Int32} {M : gM} {p0 : Nat} {a1 : Int32} {a2 : Int32} {μ : gM} (hp0 : sW p0) (h : J w L M μ) (g0 : 0 ≤ a1.toInt) (g1 : a1.toInt ≤ 4) : zH (fX10_giveUp p0 a1 a2 μ) (fun ν => J w L M ν) := by
  unfold fX10_giveUp
  refine zH_ck (zIn (rfl : a1.toInt = _) (by omega) (by omega)) ?_
  refine zH_ck (zIn (rfl : a1.toInt = _) (by omega) (by omega)) ?_
  refine zH_lt (fun μ_1 e_2 => ?_)
  have h_3 : J w L M μ_1 := by rw [e_2]; exact J.upf h (a := (p0 + 5)) (k := (1, 5)) (hp0.1.1 5 (by decide)) (fx34 (by have := hp0.1.2.2; omega) (by have := hp0.1.2.1; omega)) (by decide) (by decide) (Or.inl (by have := hp0.1.2.2; omega)) rfl
  refine zH_lt (fun μ_4 e_5 => ?_)
  have h_6 : J w L M μ_4 := by rw [e_5]; exact J.upf h_3 (a := (p0 + 14)) (k := (0, 10)) hp0.2 (fx34 (by have := hp0.1.2.2; omega) (by have := hp0.1.2.1; omega)) (by decide) (by decide) (Or.inl (by have := hp0.1.2.2; omega)) rfl
  have q_7 : (1 : Int32).toInt = (1 : Int) := (iL (1) (1) rfl)
  refine zH_bd (tX0_add (hp0.1).c h_6) (fun μ_8 p_9 => ?_)
  have h_10 : J w L M μ_8 := p_9
  exact zH_some h_10
theorem tX10_readLetter {w : Bool} {L : Int32} {M : gM} {p0 : Nat} {a1 : Int32} {a2 : Int32} {a3 : Int32} {μ : gM} (hp0 : sW p0) (h : J w L M μ) (g0 : 0 ≤ a1.toInt) (g1 : a1.toInt ≤ 4) (g2 : 0 ≤ a2.toInt) (g3 : a2.toInt ≤ 5) (g4 : 0 ≤ a3.toInt) (g5 : a3.toInt ≤ 5) : zH (fX10_readLetter p0 a1 a2 a3 μ) (fun ν => J w L M ν) := by
  unfold fX10_readLetter
  refine zH_lt (fun x_1 e_2 => ?_)
  have q_3 : x_1.toInt = ((a1.toInt * (6 : Int)) + a3.toInt) := (congrArg Int32.toInt e_2).trans (iA (iM (rfl : a1.toInt = _) (iL (6) (6) rfl) (by omega) (by omega)) (rfl : a3.toInt = _) (by omega) (by omega))
  refine zH_ck (zIn (iA (iM (rfl : a1.toInt = _) (iL (6) (6) rfl) (by omega) (by omega)) (rfl : a2.toInt = _) (by omega) (by omega)) (by omega) (by omega)) ?_
  refine zH_lt (fun x_4 e_5 => ?_)
  refine zH_ck (zIn (rfl : x_1.toInt = _) (by omega) (by omega)) ?_
  refine zH_ltc (rfl : (μ (p0 + 10) (x_1).toNatClampNeg).toInt = _) (rfl : x_4.toInt = _) (fun c_6 => ?_) (fun c_6 => ?_)
  · unfold fX10_readLetter_n59
    unfold fX10_readLetter_n64
    refine zH_bd (tX9_isHeld (by omega) (by omega)) (fun x_7 p_8 => ?_)
    have q_9 : x_7.toInt = 0 ∨ x_7.toInt = 1 := p_8
    refine zH_eqc (rfl : x_7.toInt = _) (iL (0) (0) rfl) (fun c_10e c_10 => ?_) (fun c_10e c_10 => ?_)
    · unfold fX10_readLetter_n88
      refine zH_eqc (rfl : x_7.toInt = _) (iL (0) (0) rfl) (fun c_11e c_11 => ?_) (fun c_11e c_11 => ?_)
      · unfold fX10_readLetter_n99
        refine zH_eqc (iL (1) (1) rfl) (iL (0) (0) rfl) (fun c_12e c_12 => ?_) (fun c_12e c_12 => ?_)
        · refine zH_ck (zIn (rfl : a1.toInt = _) (by omega) (by omega)) ?_
          refine zH_eqc (rfl : (μ 9 (a1).toNatClampNeg).toInt = _) (iL (1) (1) rfl) (fun c_13e c_13 => ?_) (fun c_13e c_13 => ?_)
          · unfold fX10_readLetter_n117
            refine zH_bd (tX10_await hp0 h (by omega) (by omega) (by omega) (by omega)) (fun μ_14 p_15 => ?_)
            have h_16 : J w L M μ_14 := p_15
            exact zH_some h_16
          · refine zH_ck (zIn (rfl : x_1.toInt = _) (by omega) (by omega)) ?_
            refine zH_eqc (rfl : (μ (p0 + 13) (x_1).toNatClampNeg).toInt = _) (iL (-1) (-1) rfl) (fun c_17e c_17 => ?_) (fun c_17e c_17 => ?_)
            · refine zH_ck (zIn (rfl : x_1.toInt = _) (by omega) (by omega)) ?_
              refine zH_lt (fun μ_18 e_19 => ?_)
              have h_20 : J w L M μ_18 := by rw [e_19]; exact J.upf h (a := (p0 + 13)) (k := (1, 30)) (hp0.1.1 13 (by decide)) (fx34 (by have := hp0.1.2.2; omega) (by have := hp0.1.2.1; omega)) (by decide) (by decide) (Or.inl (by have := hp0.1.2.2; omega)) rfl
              unfold fX10_readLetter_n155
              refine zH_ck (zIn (rfl : x_1.toInt = _) (by omega) (by omega)) ?_
              refine zH_ck (zIn (rfl : a1.toInt = _) (by omega) (by omega)) ?_
              refine zH_ltc (rfl : ((μ_18 p0 0) - (μ_18 (p0 + 13) (x_1).toNatClampNeg)).toInt = _) (rfl : (μ_18 8 (a1).toNatClampNeg).toInt = _) (fun c_21 => ?_) (fun c_21 => ?_)
              · refine zH_ck (zIn (rfl : x_1.toInt = _) (by omega) (by omega)) ?_
                refine zH_bd (tX1_patience (by omega) (by omega)) (fun x_22 p_23 => ?_)
                refine zH_ck (zIn (rfl : x_1.toInt = _) (by omega) (by omega)) ?_
                refine zH_lt (fun μ_24 e_25 => ?_)
                have h_26 : J w L M μ_24 := by rw [e_25]; exact J.upf h_20 (a := (p0 + 12)) (k := (1, 30)) (hp0.1.1 12 (by decide)) (fx34 (by have := hp0.1.2.2; omega) (by have := hp0.1.2.1; omega)) (by decide) (by decide) (Or.inl (by have := hp0.1.2.2; omega)) rfl
                exact zH_some h_26
              · refine zH_bd (tX10_hold hp0 h_20 (by omega) (by omega) (by omega) (by omega)) (fun μ_27 p_28 => ?_)
                have h_29 : J w L M μ_27 := p_28
                exact zH_some h_29
            · unfold fX10_readLetter_n155
              refine zH_ck (zIn (rfl : x_1.toInt = _) (by omega) (by omega)) ?_
              refine zH_ck (zIn (rfl : a1.toInt = _) (by omega) (by omega)) ?_
              refine zH_ltc (rfl : ((μ p0 0) - (μ (p0 + 13) (x_1).toNatClampNeg)).toInt = _) (rfl : (μ 8 (a1).toNatClampNeg).toInt = _) (fun c_30 => ?_) (fun c_30 => ?_)
              · refine zH_ck (zIn (rfl : x_1.toInt = _) (by omega) (by omega)) ?_
                refine zH_bd (tX1_patience (by omega) (by omega)) (fun x_31 p_32 => ?_)
                refine zH_ck (zIn (rfl : x_1.toInt = _) (by omega) (by omega)) ?_
                refine zH_lt (fun μ_33 e_34 => ?_)
                have h_35 : J w L M μ_33 := by rw [e_34]; exact J.upf h (a := (p0 + 12)) (k := (1, 30)) (hp0.1.1 12 (by decide)) (fx34 (by have := hp0.1.2.2; omega) (by have := hp0.1.2.1; omega)) (by decide) (by decide) (Or.inl (by have := hp0.1.2.2; omega)) rfl
                exact zH_some h_35
              · refine zH_bd (tX10_hold hp0 h (by omega) (by omega) (by omega) (by omega)) (fun μ_36 p_37 => ?_)
                have h_38 : J w L M μ_36 := p_37
                exact zH_some h_38
        · unfold fX10_readLetter_n117
          refine zH_bd (tX10_await hp0 h (by omega) (by omega) (by omega) (by omega)) (fun μ_39 p_40 => ?_)
          have h_41 : J w L M μ_39 := p_40
          exact zH_some h_41
      · refine zH_bd (tX10_giveUp hp0 h (by omega) (by omega)) (fun μ_42 p_43 => ?_)
        have h_44 : J w L M μ_42 := p_43
        unfold fX10_readLetter_n99
        refine zH_eqc (iL (1) (1) rfl) (iL (0) (0) rfl) (fun c_45e c_45 => ?_) (fun c_45e c_45 => ?_)
        · refine zH_ck (zIn (rfl : a1.toInt = _) (by omega) (by omega)) ?_
          refine zH_eqc (rfl : (μ_42 9 (a1).toNatClampNeg).toInt = _) (iL (1) (1) rfl) (fun c_46e c_46 => ?_) (fun c_46e c_46 => ?_)
          · unfold fX10_readLetter_n117
            refine zH_bd (tX10_await hp0 h_44 (by omega) (by omega) (by omega) (by omega)) (fun μ_47 p_48 => ?_)
            have h_49 : J w L M μ_47 := p_48
            exact zH_some h_49
          · refine zH_ck (zIn (rfl : x_1.toInt = _) (by omega) (by omega)) ?_
            refine zH_eqc (rfl : (μ_42 (p0 + 13) (x_1).toNatClampNeg).toInt = _) (iL (-1) (-1) rfl) (fun c_50e c_50 => ?_) (fun c_50e c_50 => ?_)
            · refine zH_ck (zIn (rfl : x_1.toInt = _) (by omega) (by omega)) ?_
              refine zH_lt (fun μ_51 e_52 => ?_)
              have h_53 : J w L M μ_51 := by rw [e_52]; exact J.upf h_44 (a := (p0 + 13)) (k := (1, 30)) (hp0.1.1 13 (by decide)) (fx34 (by have := hp0.1.2.2; omega) (by have := hp0.1.2.1; omega)) (by decide) (by decide) (Or.inl (by have := hp0.1.2.2; omega)) rfl
              unfold fX10_readLetter_n155
              refine zH_ck (zIn (rfl : x_1.toInt = _) (by omega) (by omega)) ?_
              refine zH_ck (zIn (rfl : a1.toInt = _) (by omega) (by omega)) ?_
              refine zH_ltc (rfl : ((μ_51 p0 0) - (μ_51 (p0 + 13) (x_1).toNatClampNeg)).toInt = _) (rfl : (μ_51 8 (a1).toNatClampNeg).toInt = _) (fun c_54 => ?_) (fun c_54 => ?_)
              · refine zH_ck (zIn (rfl : x_1.toInt = _) (by omega) (by omega)) ?_
                refine zH_bd (tX1_patience (by omega) (by omega)) (fun x_55 p_56 => ?_)
                refine zH_ck (zIn (rfl : x_1.toInt = _) (by omega) (by omega)) ?_
                refine zH_lt (fun μ_57 e_58 => ?_)
                have h_59 : J w L M μ_57 := by rw [e_58]; exact J.upf h_53 (a := (p0 + 12)) (k := (1, 30)) (hp0.1.1 12 (by decide)) (fx34 (by have := hp0.1.2.2; omega) (by have := hp0.1.2.1; omega)) (by decide) (by decide) (Or.inl (by have := hp0.1.2.2; omega)) rfl
                exact zH_some h_59
              · refine zH_bd (tX10_hold hp0 h_53 (by omega) (by omega) (by omega) (by omega)) (fun μ_60 p_61 => ?_)
                have h_62 : J w L M μ_60 := p_61
                exact zH_some h_62
            · unfold fX10_readLetter_n155
              refine zH_ck (zIn (rfl : x_1.toInt = _) (by omega) (by omega)) ?_
              refine zH_ck (zIn (rfl : a1.toInt = _) (by omega) (by omega)) ?_
              refine zH_ltc (rfl : ((μ_42 p0 0) - (μ_42 (p0 + 13) (x_1).toNatClampNeg)).toInt = _) (rfl : (μ_42 8 (a1).toNatClampNeg).toInt = _) (fun c_63 => ?_) (fun c_63 => ?_)
              · refine zH_ck (zIn (rfl : x_1.toInt = _) (by omega) (by omega)) ?_
                refine zH_bd (tX1_patience (by omega) (by omega)) (fun x_64 p_65 => ?_)
                refine zH_ck (zIn (rfl : x_1.toInt = _) (by omega) (by omega)) ?_
                refine zH_lt (fun μ_66 e_67 => ?_)
                have h_68 : J w L M μ_66 := by rw [e_67]; exact J.upf h_44 (a := (p0 + 12)) (k := (1, 30)) (hp0.1.1 12 (by decide)) (fx34 (by have := hp0.1.2.2; omega) (by have := hp0.1.2.1; omega)) (by decide) (by decide) (Or.inl (by have := hp0.1.2.2; omega)) rfl
                exact zH_some h_68
              · refine zH_bd (tX10_hold hp0 h_44 (by omega) (by omega) (by omega) (by omega)) (fun μ_69 p_70 => ?_)
                have h_71 : J w L M μ_69 := p_70
                exact zH_some h_71
        · unfold fX10_readLetter_n117
          refine zH_bd (tX10_await hp0 h_44 (by omega) (by omega) (by omega) (by omega)) (fun μ_72 p_73 => ?_)
          have h_74 : J w L M μ_72 := p_73
          exact zH_some h_74
    · refine zH_eqc (iL (1) (1) rfl) (iL (0) (0) rfl) (fun c_75e c_75 => ?_) (fun c_75e c_75 => ?_)
      · exact zH_some h
      · unfold fX10_readLetter_n88
        refine zH_eqc (rfl : x_7.toInt = _) (iL (0) (0) rfl) (fun c_76e c_76 => ?_) (fun c_76e c_76 => ?_)
        · unfold fX10_readLetter_n99
          refine zH_eqc (iL (1) (1) rfl) (iL (0) (0) rfl) (fun c_77e c_77 => ?_) (fun c_77e c_77 => ?_)
          · refine zH_ck (zIn (rfl : a1.toInt = _) (by omega) (by omega)) ?_
            refine zH_eqc (rfl : (μ 9 (a1).toNatClampNeg).toInt = _) (iL (1) (1) rfl) (fun c_78e c_78 => ?_) (fun c_78e c_78 => ?_)
            · unfold fX10_readLetter_n117
              refine zH_bd (tX10_await hp0 h (by omega) (by omega) (by omega) (by omega)) (fun μ_79 p_80 => ?_)
              have h_81 : J w L M μ_79 := p_80
              exact zH_some h_81
            · refine zH_ck (zIn (rfl : x_1.toInt = _) (by omega) (by omega)) ?_
              refine zH_eqc (rfl : (μ (p0 + 13) (x_1).toNatClampNeg).toInt = _) (iL (-1) (-1) rfl) (fun c_82e c_82 => ?_) (fun c_82e c_82 => ?_)
              · refine zH_ck (zIn (rfl : x_1.toInt = _) (by omega) (by omega)) ?_
                refine zH_lt (fun μ_83 e_84 => ?_)
                have h_85 : J w L M μ_83 := by rw [e_84]; exact J.upf h (a := (p0 + 13)) (k := (1, 30)) (hp0.1.1 13 (by decide)) (fx34 (by have := hp0.1.2.2; omega) (by have := hp0.1.2.1; omega)) (by decide) (by decide) (Or.inl (by have := hp0.1.2.2; omega)) rfl
                unfold fX10_readLetter_n155
                refine zH_ck (zIn (rfl : x_1.toInt = _) (by omega) (by omega)) ?_
                refine zH_ck (zIn (rfl : a1.toInt = _) (by omega) (by omega)) ?_
                refine zH_ltc (rfl : ((μ_83 p0 0) - (μ_83 (p0 + 13) (x_1).toNatClampNeg)).toInt = _) (rfl : (μ_83 8 (a1).toNatClampNeg).toInt = _) (fun c_86 => ?_) (fun c_86 => ?_)
                · refine zH_ck (zIn (rfl : x_1.toInt = _) (by omega) (by omega)) ?_
                  refine zH_bd (tX1_patience (by omega) (by omega)) (fun x_87 p_88 => ?_)
                  refine zH_ck (zIn (rfl : x_1.toInt = _) (by omega) (by omega)) ?_
                  refine zH_lt (fun μ_89 e_90 => ?_)
                  have h_91 : J w L M μ_89 := by rw [e_90]; exact J.upf h_85 (a := (p0 + 12)) (k := (1, 30)) (hp0.1.1 12 (by decide)) (fx34 (by have := hp0.1.2.2; omega) (by have := hp0.1.2.1; omega)) (by decide) (by decide) (Or.inl (by have := hp0.1.2.2; omega)) rfl
                  exact zH_some h_91
                · refine zH_bd (tX10_hold hp0 h_85 (by omega) (by omega) (by omega) (by omega)) (fun μ_92 p_93 => ?_)
                  have h_94 : J w L M μ_92 := p_93
                  exact zH_some h_94
              · unfold fX10_readLetter_n155
                refine zH_ck (zIn (rfl : x_1.toInt = _) (by omega) (by omega)) ?_
                refine zH_ck (zIn (rfl : a1.toInt = _) (by omega) (by omega)) ?_
                refine zH_ltc (rfl : ((μ p0 0) - (μ (p0 + 13) (x_1).toNatClampNeg)).toInt = _) (rfl : (μ 8 (a1).toNatClampNeg).toInt = _) (fun c_95 => ?_) (fun c_95 => ?_)
                · refine zH_ck (zIn (rfl : x_1.toInt = _) (by omega) (by omega)) ?_
                  refine zH_bd (tX1_patience (by omega) (by omega)) (fun x_96 p_97 => ?_)
                  refine zH_ck (zIn (rfl : x_1.toInt = _) (by omega) (by omega)) ?_
                  refine zH_lt (fun μ_98 e_99 => ?_)
                  have h_100 : J w L M μ_98 := by rw [e_99]; exact J.upf h (a := (p0 + 12)) (k := (1, 30)) (hp0.1.1 12 (by decide)) (fx34 (by have := hp0.1.2.2; omega) (by have := hp0.1.2.1; omega)) (by decide) (by decide) (Or.inl (by have := hp0.1.2.2; omega)) rfl
                  exact zH_some h_100
                · refine zH_bd (tX10_hold hp0 h (by omega) (by omega) (by omega) (by omega)) (fun μ_101 p_102 => ?_)
                  have h_103 : J w L M μ_101 := p_102
                  exact zH_some h_103
          · unfold fX10_readLetter_n117
            refine zH_bd (tX10_await hp0 h (by omega) (by omega) (by omega) (by omega)) (fun μ_104 p_105 => ?_)
            have h_106 : J w L M μ_104 := p_105
            exact zH_some h_106
        · refine zH_bd (tX10_giveUp hp0 h (by omega) (by omega)) (fun μ_107 p_108 => ?_)
          have h_109 : J w L M μ_107 := p_108
          unfold fX10_readLetter_n99
          refine zH_eqc (iL (1) (1) rfl) (iL (0) (0) rfl) (fun c_110e c_110 => ?_) (fun c_110e c_110 => ?_)
          · refine zH_ck (zIn (rfl : a1.toInt = _) (by omega) (by omega)) ?_
            refine zH_eqc (rfl : (μ_107 9 (a1).toNatClampNeg).toInt = _) (iL (1) (1) rfl) (fun c_111e c_111 => ?_) (fun c_111e c_111 => ?_)
            · unfold fX10_readLetter_n117
              refine zH_bd (tX10_await hp0 h_109 (by omega) (by omega) (by omega) (by omega)) (fun μ_112 p_113 => ?_)
              have h_114 : J w L M μ_112 := p_113
              exact zH_some h_114
            · refine zH_ck (zIn (rfl : x_1.toInt = _) (by omega) (by omega)) ?_
              refine zH_eqc (rfl : (μ_107 (p0 + 13) (x_1).toNatClampNeg).toInt = _) (iL (-1) (-1) rfl) (fun c_115e c_115 => ?_) (fun c_115e c_115 => ?_)
              · refine zH_ck (zIn (rfl : x_1.toInt = _) (by omega) (by omega)) ?_
                refine zH_lt (fun μ_116 e_117 => ?_)
                have h_118 : J w L M μ_116 := by rw [e_117]; exact J.upf h_109 (a := (p0 + 13)) (k := (1, 30)) (hp0.1.1 13 (by decide)) (fx34 (by have := hp0.1.2.2; omega) (by have := hp0.1.2.1; omega)) (by decide) (by decide) (Or.inl (by have := hp0.1.2.2; omega)) rfl
                unfold fX10_readLetter_n155
                refine zH_ck (zIn (rfl : x_1.toInt = _) (by omega) (by omega)) ?_
                refine zH_ck (zIn (rfl : a1.toInt = _) (by omega) (by omega)) ?_
                refine zH_ltc (rfl : ((μ_116 p0 0) - (μ_116 (p0 + 13) (x_1).toNatClampNeg)).toInt = _) (rfl : (μ_116 8 (a1).toNatClampNeg).toInt = _) (fun c_119 => ?_) (fun c_119 => ?_)
                · refine zH_ck (zIn (rfl : x_1.toInt = _) (by omega) (by omega)) ?_
                  refine zH_bd (tX1_patience (by omega) (by omega)) (fun x_120 p_121 => ?_)
                  refine zH_ck (zIn (rfl : x_1.toInt = _) (by omega) (by omega)) ?_
                  refine zH_lt (fun μ_122 e_123 => ?_)
                  have h_124 : J w L M μ_122 := by rw [e_123]; exact J.upf h_118 (a := (p0 + 12)) (k := (1, 30)) (hp0.1.1 12 (by decide)) (fx34 (by have := hp0.1.2.2; omega) (by have := hp0.1.2.1; omega)) (by decide) (by decide) (Or.inl (by have := hp0.1.2.2; omega)) rfl
                  exact zH_some h_124
                · refine zH_bd (tX10_hold hp0 h_118 (by omega) (by omega) (by omega) (by omega)) (fun μ_125 p_126 => ?_)
                  have h_127 : J w L M μ_125 := p_126
                  exact zH_some h_127
              · unfold fX10_readLetter_n155
                refine zH_ck (zIn (rfl : x_1.toInt = _) (by omega) (by omega)) ?_
                refine zH_ck (zIn (rfl : a1.toInt = _) (by omega) (by omega)) ?_
                refine zH_ltc (rfl : ((μ_107 p0 0) - (μ_107 (p0 + 13) (x_1).toNatClampNeg)).toInt = _) (rfl : (μ_107 8 (a1).toNatClampNeg).toInt = _) (fun c_128 => ?_) (fun c_128 => ?_)
                · refine zH_ck (zIn (rfl : x_1.toInt = _) (by omega) (by omega)) ?_
                  refine zH_bd (tX1_patience (by omega) (by omega)) (fun x_129 p_130 => ?_)
                  refine zH_ck (zIn (rfl : x_1.toInt = _) (by omega) (by omega)) ?_
                  refine zH_lt (fun μ_131 e_132 => ?_)
                  have h_133 : J w L M μ_131 := by rw [e_132]; exact J.upf h_109 (a := (p0 + 12)) (k := (1, 30)) (hp0.1.1 12 (by decide)) (fx34 (by have := hp0.1.2.2; omega) (by have := hp0.1.2.1; omega)) (by decide) (by decide) (Or.inl (by have := hp0.1.2.2; omega)) rfl
                  exact zH_some h_133
                · refine zH_bd (tX10_hold hp0 h_109 (by omega) (by omega) (by omega) (by omega)) (fun μ_134 p_135 => ?_)
                  have h_136 : J w L M μ_134 := p_135
                  exact zH_some h_136
          · unfold fX10_readLetter_n117
            refine zH_bd (tX10_await hp0 h_109 (by omega) (by omega) (by omega) (by omega)) (fun μ_137 p_138 => ?_)
            have h_139 : J w L M μ_137 := p_138
            exact zH_some h_139
  · refine zH_ck (zIn (rfl : x_1.toInt = _) (by omega) (by omega)) ?_
    refine zH_eqc (rfl : x_4.toInt = _) (rfl : (μ (p0 + 10) (x_1).toNatClampNeg).toInt = _) (fun c_140e c_140 => ?_) (fun c_140e c_140 => ?_)
    · refine zH_lec (rfl : a2.toInt = _) (rfl : a3.toInt = _) (fun c_141 => ?_) (fun c_141 => ?_)
      · unfold fX10_readLetter_n64
        refine zH_bd (tX9_isHeld (by omega) (by omega)) (fun x_142 p_143 => ?_)
        have q_144 : x_142.toInt = 0 ∨ x_142.toInt = 1 := p_143
        refine zH_eqc (rfl : x_142.toInt = _) (iL (0) (0) rfl) (fun c_145e c_145 => ?_) (fun c_145e c_145 => ?_)
        · unfold fX10_readLetter_n88
          refine zH_eqc (rfl : x_142.toInt = _) (iL (0) (0) rfl) (fun c_146e c_146 => ?_) (fun c_146e c_146 => ?_)
          · unfold fX10_readLetter_n99
            refine zH_eqc (iL (0) (0) rfl) (iL (0) (0) rfl) (fun c_147e c_147 => ?_) (fun c_147e c_147 => ?_)
            · refine zH_ck (zIn (rfl : a1.toInt = _) (by omega) (by omega)) ?_
              refine zH_eqc (rfl : (μ 9 (a1).toNatClampNeg).toInt = _) (iL (1) (1) rfl) (fun c_148e c_148 => ?_) (fun c_148e c_148 => ?_)
              · unfold fX10_readLetter_n117
                refine zH_bd (tX10_await hp0 h (by omega) (by omega) (by omega) (by omega)) (fun μ_149 p_150 => ?_)
                have h_151 : J w L M μ_149 := p_150
                exact zH_some h_151
              · refine zH_ck (zIn (rfl : x_1.toInt = _) (by omega) (by omega)) ?_
                refine zH_eqc (rfl : (μ (p0 + 13) (x_1).toNatClampNeg).toInt = _) (iL (-1) (-1) rfl) (fun c_152e c_152 => ?_) (fun c_152e c_152 => ?_)
                · refine zH_ck (zIn (rfl : x_1.toInt = _) (by omega) (by omega)) ?_
                  refine zH_lt (fun μ_153 e_154 => ?_)
                  have h_155 : J w L M μ_153 := by rw [e_154]; exact J.upf h (a := (p0 + 13)) (k := (1, 30)) (hp0.1.1 13 (by decide)) (fx34 (by have := hp0.1.2.2; omega) (by have := hp0.1.2.1; omega)) (by decide) (by decide) (Or.inl (by have := hp0.1.2.2; omega)) rfl
                  unfold fX10_readLetter_n155
                  refine zH_ck (zIn (rfl : x_1.toInt = _) (by omega) (by omega)) ?_
                  refine zH_ck (zIn (rfl : a1.toInt = _) (by omega) (by omega)) ?_
                  refine zH_ltc (rfl : ((μ_153 p0 0) - (μ_153 (p0 + 13) (x_1).toNatClampNeg)).toInt = _) (rfl : (μ_153 8 (a1).toNatClampNeg).toInt = _) (fun c_156 => ?_) (fun c_156 => ?_)
                  · refine zH_ck (zIn (rfl : x_1.toInt = _) (by omega) (by omega)) ?_
                    refine zH_bd (tX1_patience (by omega) (by omega)) (fun x_157 p_158 => ?_)
                    refine zH_ck (zIn (rfl : x_1.toInt = _) (by omega) (by omega)) ?_
                    refine zH_lt (fun μ_159 e_160 => ?_)
                    have h_161 : J w L M μ_159 := by rw [e_160]; exact J.upf h_155 (a := (p0 + 12)) (k := (1, 30)) (hp0.1.1 12 (by decide)) (fx34 (by have := hp0.1.2.2; omega) (by have := hp0.1.2.1; omega)) (by decide) (by decide) (Or.inl (by have := hp0.1.2.2; omega)) rfl
                    exact zH_some h_161
                  · refine zH_bd (tX10_hold hp0 h_155 (by omega) (by omega) (by omega) (by omega)) (fun μ_162 p_163 => ?_)
                    have h_164 : J w L M μ_162 := p_163
                    exact zH_some h_164
                · unfold fX10_readLetter_n155
                  refine zH_ck (zIn (rfl : x_1.toInt = _) (by omega) (by omega)) ?_
                  refine zH_ck (zIn (rfl : a1.toInt = _) (by omega) (by omega)) ?_
                  refine zH_ltc (rfl : ((μ p0 0) - (μ (p0 + 13) (x_1).toNatClampNeg)).toInt = _) (rfl : (μ 8 (a1).toNatClampNeg).toInt = _) (fun c_165 => ?_) (fun c_165 => ?_)
                  · refine zH_ck (zIn (rfl : x_1.toInt = _) (by omega) (by omega)) ?_
                    refine zH_bd (tX1_patience (by omega) (by omega)) (fun x_166 p_167 => ?_)
                    refine zH_ck (zIn (rfl : x_1.toInt = _) (by omega) (by omega)) ?_
                    refine zH_lt (fun μ_168 e_169 => ?_)
                    have h_170 : J w L M μ_168 := by rw [e_169]; exact J.upf h (a := (p0 + 12)) (k := (1, 30)) (hp0.1.1 12 (by decide)) (fx34 (by have := hp0.1.2.2; omega) (by have := hp0.1.2.1; omega)) (by decide) (by decide) (Or.inl (by have := hp0.1.2.2; omega)) rfl
                    exact zH_some h_170
                  · refine zH_bd (tX10_hold hp0 h (by omega) (by omega) (by omega) (by omega)) (fun μ_171 p_172 => ?_)
                    have h_173 : J w L M μ_171 := p_172
                    exact zH_some h_173
            · unfold fX10_readLetter_n117
              refine zH_bd (tX10_await hp0 h (by omega) (by omega) (by omega) (by omega)) (fun μ_174 p_175 => ?_)
              have h_176 : J w L M μ_174 := p_175
              exact zH_some h_176
          · refine zH_bd (tX10_giveUp hp0 h (by omega) (by omega)) (fun μ_177 p_178 => ?_)
            have h_179 : J w L M μ_177 := p_178
            unfold fX10_readLetter_n99
            refine zH_eqc (iL (0) (0) rfl) (iL (0) (0) rfl) (fun c_180e c_180 => ?_) (fun c_180e c_180 => ?_)
            · refine zH_ck (zIn (rfl : a1.toInt = _) (by omega) (by omega)) ?_
              refine zH_eqc (rfl : (μ_177 9 (a1).toNatClampNeg).toInt = _) (iL (1) (1) rfl) (fun c_181e c_181 => ?_) (fun c_181e c_181 => ?_)
              · unfold fX10_readLetter_n117
                refine zH_bd (tX10_await hp0 h_179 (by omega) (by omega) (by omega) (by omega)) (fun μ_182 p_183 => ?_)
                have h_184 : J w L M μ_182 := p_183
                exact zH_some h_184
              · refine zH_ck (zIn (rfl : x_1.toInt = _) (by omega) (by omega)) ?_
                refine zH_eqc (rfl : (μ_177 (p0 + 13) (x_1).toNatClampNeg).toInt = _) (iL (-1) (-1) rfl) (fun c_185e c_185 => ?_) (fun c_185e c_185 => ?_)
                · refine zH_ck (zIn (rfl : x_1.toInt = _) (by omega) (by omega)) ?_
                  refine zH_lt (fun μ_186 e_187 => ?_)
                  have h_188 : J w L M μ_186 := by rw [e_187]; exact J.upf h_179 (a := (p0 + 13)) (k := (1, 30)) (hp0.1.1 13 (by decide)) (fx34 (by have := hp0.1.2.2; omega) (by have := hp0.1.2.1; omega)) (by decide) (by decide) (Or.inl (by have := hp0.1.2.2; omega)) rfl
                  unfold fX10_readLetter_n155
                  refine zH_ck (zIn (rfl : x_1.toInt = _) (by omega) (by omega)) ?_
                  refine zH_ck (zIn (rfl : a1.toInt = _) (by omega) (by omega)) ?_
                  refine zH_ltc (rfl : ((μ_186 p0 0) - (μ_186 (p0 + 13) (x_1).toNatClampNeg)).toInt = _) (rfl : (μ_186 8 (a1).toNatClampNeg).toInt = _) (fun c_189 => ?_) (fun c_189 => ?_)
                  · refine zH_ck (zIn (rfl : x_1.toInt = _) (by omega) (by omega)) ?_
                    refine zH_bd (tX1_patience (by omega) (by omega)) (fun x_190 p_191 => ?_)
                    refine zH_ck (zIn (rfl : x_1.toInt = _) (by omega) (by omega)) ?_
                    refine zH_lt (fun μ_192 e_193 => ?_)
                    have h_194 : J w L M μ_192 := by rw [e_193]; exact J.upf h_188 (a := (p0 + 12)) (k := (1, 30)) (hp0.1.1 12 (by decide)) (fx34 (by have := hp0.1.2.2; omega) (by have := hp0.1.2.1; omega)) (by decide) (by decide) (Or.inl (by have := hp0.1.2.2; omega)) rfl
                    exact zH_some h_194
                  · refine zH_bd (tX10_hold hp0 h_188 (by omega) (by omega) (by omega) (by omega)) (fun μ_195 p_196 => ?_)
                    have h_197 : J w L M μ_195 := p_196
                    exact zH_some h_197
                · unfold fX10_readLetter_n155
                  refine zH_ck (zIn (rfl : x_1.toInt = _) (by omega) (by omega)) ?_
                  refine zH_ck (zIn (rfl : a1.toInt = _) (by omega) (by omega)) ?_
                  refine zH_ltc (rfl : ((μ_177 p0 0) - (μ_177 (p0 + 13) (x_1).toNatClampNeg)).toInt = _) (rfl : (μ_177 8 (a1).toNatClampNeg).toInt = _) (fun c_198 => ?_) (fun c_198 => ?_)
                  · refine zH_ck (zIn (rfl : x_1.toInt = _) (by omega) (by omega)) ?_
                    refine zH_bd (tX1_patience (by omega) (by omega)) (fun x_199 p_200 => ?_)
                    refine zH_ck (zIn (rfl : x_1.toInt = _) (by omega) (by omega)) ?_
                    refine zH_lt (fun μ_201 e_202 => ?_)
                    have h_203 : J w L M μ_201 := by rw [e_202]; exact J.upf h_179 (a := (p0 + 12)) (k := (1, 30)) (hp0.1.1 12 (by decide)) (fx34 (by have := hp0.1.2.2; omega) (by have := hp0.1.2.1; omega)) (by decide) (by decide) (Or.inl (by have := hp0.1.2.2; omega)) rfl
                    exact zH_some h_203
                  · refine zH_bd (tX10_hold hp0 h_179 (by omega) (by omega) (by omega) (by omega)) (fun μ_204 p_205 => ?_)
                    have h_206 : J w L M μ_204 := p_205
                    exact zH_some h_206
            · unfold fX10_readLetter_n117
              refine zH_bd (tX10_await hp0 h_179 (by omega) (by omega) (by omega) (by omega)) (fun μ_207 p_208 => ?_)
              have h_209 : J w L M μ_207 := p_208
              exact zH_some h_209
        · refine zH_eqc (iL (0) (0) rfl) (iL (0) (0) rfl) (fun c_210e c_210 => ?_) (fun c_210e c_210 => ?_)
          · exact zH_some h
          · unfold fX10_readLetter_n88
            refine zH_eqc (rfl : x_142.toInt = _) (iL (0) (0) rfl) (fun c_211e c_211 => ?_) (fun c_211e c_211 => ?_)
            · unfold fX10_readLetter_n99
              refine zH_eqc (iL (0) (0) rfl) (iL (0) (0) rfl) (fun c_212e c_212 => ?_) (fun c_212e c_212 => ?_)
              · refine zH_ck (zIn (rfl : a1.toInt = _) (by omega) (by omega)) ?_
                refine zH_eqc (rfl : (μ 9 (a1).toNatClampNeg).toInt = _) (iL (1) (1) rfl) (fun c_213e c_213 => ?_) (fun c_213e c_213 => ?_)
                · unfold fX10_readLetter_n117
                  refine zH_bd (tX10_await hp0 h (by omega) (by omega) (by omega) (by omega)) (fun μ_214 p_215 => ?_)
                  have h_216 : J w L M μ_214 := p_215
                  exact zH_some h_216
                · refine zH_ck (zIn (rfl : x_1.toInt = _) (by omega) (by omega)) ?_
                  refine zH_eqc (rfl : (μ (p0 + 13) (x_1).toNatClampNeg).toInt = _) (iL (-1) (-1) rfl) (fun c_217e c_217 => ?_) (fun c_217e c_217 => ?_)
                  · refine zH_ck (zIn (rfl : x_1.toInt = _) (by omega) (by omega)) ?_
                    refine zH_lt (fun μ_218 e_219 => ?_)
                    have h_220 : J w L M μ_218 := by rw [e_219]; exact J.upf h (a := (p0 + 13)) (k := (1, 30)) (hp0.1.1 13 (by decide)) (fx34 (by have := hp0.1.2.2; omega) (by have := hp0.1.2.1; omega)) (by decide) (by decide) (Or.inl (by have := hp0.1.2.2; omega)) rfl
                    unfold fX10_readLetter_n155
                    refine zH_ck (zIn (rfl : x_1.toInt = _) (by omega) (by omega)) ?_
                    refine zH_ck (zIn (rfl : a1.toInt = _) (by omega) (by omega)) ?_
                    refine zH_ltc (rfl : ((μ_218 p0 0) - (μ_218 (p0 + 13) (x_1).toNatClampNeg)).toInt = _) (rfl : (μ_218 8 (a1).toNatClampNeg).toInt = _) (fun c_221 => ?_) (fun c_221 => ?_)
                    · refine zH_ck (zIn (rfl : x_1.toInt = _) (by omega) (by omega)) ?_
                      refine zH_bd (tX1_patience (by omega) (by omega)) (fun x_222 p_223 => ?_)
                      refine zH_ck (zIn (rfl : x_1.toInt = _) (by omega) (by omega)) ?_
                      refine zH_lt (fun μ_224 e_225 => ?_)
                      have h_226 : J w L M μ_224 := by rw [e_225]; exact J.upf h_220 (a := (p0 + 12)) (k := (1, 30)) (hp0.1.1 12 (by decide)) (fx34 (by have := hp0.1.2.2; omega) (by have := hp0.1.2.1; omega)) (by decide) (by decide) (Or.inl (by have := hp0.1.2.2; omega)) rfl
                      exact zH_some h_226
                    · refine zH_bd (tX10_hold hp0 h_220 (by omega) (by omega) (by omega) (by omega)) (fun μ_227 p_228 => ?_)
                      have h_229 : J w L M μ_227 := p_228
                      exact zH_some h_229
                  · unfold fX10_readLetter_n155
                    refine zH_ck (zIn (rfl : x_1.toInt = _) (by omega) (by omega)) ?_
                    refine zH_ck (zIn (rfl : a1.toInt = _) (by omega) (by omega)) ?_
                    refine zH_ltc (rfl : ((μ p0 0) - (μ (p0 + 13) (x_1).toNatClampNeg)).toInt = _) (rfl : (μ 8 (a1).toNatClampNeg).toInt = _) (fun c_230 => ?_) (fun c_230 => ?_)
                    · refine zH_ck (zIn (rfl : x_1.toInt = _) (by omega) (by omega)) ?_
                      refine zH_bd (tX1_patience (by omega) (by omega)) (fun x_231 p_232 => ?_)
                      refine zH_ck (zIn (rfl : x_1.toInt = _) (by omega) (by omega)) ?_
                      refine zH_lt (fun μ_233 e_234 => ?_)
                      have h_235 : J w L M μ_233 := by rw [e_234]; exact J.upf h (a := (p0 + 12)) (k := (1, 30)) (hp0.1.1 12 (by decide)) (fx34 (by have := hp0.1.2.2; omega) (by have := hp0.1.2.1; omega)) (by decide) (by decide) (Or.inl (by have := hp0.1.2.2; omega)) rfl
                      exact zH_some h_235
                    · refine zH_bd (tX10_hold hp0 h (by omega) (by omega) (by omega) (by omega)) (fun μ_236 p_237 => ?_)
                      have h_238 : J w L M μ_236 := p_237
                      exact zH_some h_238
              · unfold fX10_readLetter_n117
                refine zH_bd (tX10_await hp0 h (by omega) (by omega) (by omega) (by omega)) (fun μ_239 p_240 => ?_)
                have h_241 : J w L M μ_239 := p_240
                exact zH_some h_241
            · refine zH_bd (tX10_giveUp hp0 h (by omega) (by omega)) (fun μ_242 p_243 => ?_)
              have h_244 : J w L M μ_242 := p_243
              unfold fX10_readLetter_n99
              refine zH_eqc (iL (0) (0) rfl) (iL (0) (0) rfl) (fun c_245e c_245 => ?_) (fun c_245e c_245 => ?_)
              · refine zH_ck (zIn (rfl : a1.toInt = _) (by omega) (by omega)) ?_
                refine zH_eqc (rfl : (μ_242 9 (a1).toNatClampNeg).toInt = _) (iL (1) (1) rfl) (fun c_246e c_246 => ?_) (fun c_246e c_246 => ?_)
                · unfold fX10_readLetter_n117
                  refine zH_bd (tX10_await hp0 h_244 (by omega) (by omega) (by omega) (by omega)) (fun μ_247 p_248 => ?_)
                  have h_249 : J w L M μ_247 := p_248
                  exact zH_some h_249
                · refine zH_ck (zIn (rfl : x_1.toInt = _) (by omega) (by omega)) ?_
                  refine zH_eqc (rfl : (μ_242 (p0 + 13) (x_1).toNatClampNeg).toInt = _) (iL (-1) (-1) rfl) (fun c_250e c_250 => ?_) (fun c_250e c_250 => ?_)
                  · refine zH_ck (zIn (rfl : x_1.toInt = _) (by omega) (by omega)) ?_
                    refine zH_lt (fun μ_251 e_252 => ?_)
                    have h_253 : J w L M μ_251 := by rw [e_252]; exact J.upf h_244 (a := (p0 + 13)) (k := (1, 30)) (hp0.1.1 13 (by decide)) (fx34 (by have := hp0.1.2.2; omega) (by have := hp0.1.2.1; omega)) (by decide) (by decide) (Or.inl (by have := hp0.1.2.2; omega)) rfl
                    unfold fX10_readLetter_n155
                    refine zH_ck (zIn (rfl : x_1.toInt = _) (by omega) (by omega)) ?_
                    refine zH_ck (zIn (rfl : a1.toInt = _) (by omega) (by omega)) ?_
                    refine zH_ltc (rfl : ((μ_251 p0 0) - (μ_251 (p0 + 13) (x_1).toNatClampNeg)).toInt = _) (rfl : (μ_251 8 (a1).toNatClampNeg).toInt = _) (fun c_254 => ?_) (fun c_254 => ?_)
                    · refine zH_ck (zIn (rfl : x_1.toInt = _) (by omega) (by omega)) ?_
                      refine zH_bd (tX1_patience (by omega) (by omega)) (fun x_255 p_256 => ?_)
                      refine zH_ck (zIn (rfl : x_1.toInt = _) (by omega) (by omega)) ?_
                      refine zH_lt (fun μ_257 e_258 => ?_)
                      have h_259 : J w L M μ_257 := by rw [e_258]; exact J.upf h_253 (a := (p0 + 12)) (k := (1, 30)) (hp0.1.1 12 (by decide)) (fx34 (by have := hp0.1.2.2; omega) (by have := hp0.1.2.1; omega)) (by decide) (by decide) (Or.inl (by have := hp0.1.2.2; omega)) rfl
                      exact zH_some h_259
                    · refine zH_bd (tX10_hold hp0 h_253 (by omega) (by omega) (by omega) (by omega)) (fun μ_260 p_261 => ?_)
                      have h_262 : J w L M μ_260 := p_261
                      exact zH_some h_262
                  · unfold fX10_readLetter_n155
                    refine zH_ck (zIn (rfl : x_1.toInt = _) (by omega) (by omega)) ?_
                    refine zH_ck (zIn (rfl : a1.toInt = _) (by omega) (by omega)) ?_
                    refine zH_ltc (rfl : ((μ_242 p0 0) - (μ_242 (p0 + 13) (x_1).toNatClampNeg)).toInt = _) (rfl : (μ_242 8 (a1).toNatClampNeg).toInt = _) (fun c_263 => ?_) (fun c_263 => ?_)
                    · refine zH_ck (zIn (rfl : x_1.toInt = _) (by omega) (by omega)) ?_
                      refine zH_bd (tX1_patience (by omega) (by omega)) (fun x_264 p_265 => ?_)
                      refine zH_ck (zIn (rfl : x_1.toInt = _) (by omega) (by omega)) ?_
                      refine zH_lt (fun μ_266 e_267 => ?_)
                      have h_268 : J w L M μ_266 := by rw [e_267]; exact J.upf h_244 (a := (p0 + 12)) (k := (1, 30)) (hp0.1.1 12 (by decide)) (fx34 (by have := hp0.1.2.2; omega) (by have := hp0.1.2.1; omega)) (by decide) (by decide) (Or.inl (by have := hp0.1.2.2; omega)) rfl
                      exact zH_some h_268
                    · refine zH_bd (tX10_hold hp0 h_244 (by omega) (by omega) (by omega) (by omega)) (fun μ_269 p_270 => ?_)
                      have h_271 : J w L M μ_269 := p_270
                      exact zH_some h_271
              · unfold fX10_readLetter_n117
                refine zH_bd (tX10_await hp0 h_244 (by omega) (by omega) (by omega) (by omega)) (fun μ_272 p_273 => ?_)
                have h_274 : J w L M μ_272 := p_273
                exact zH_some h_274
      · unfold fX10_readLetter_n59
        unfold fX10_readLetter_n64
        refine zH_bd (tX9_isHeld (by omega) (by omega)) (fun x_275 p_276 => ?_)
        have q_277 : x_275.toInt = 0 ∨ x_275.toInt = 1 := p_276
        refine zH_eqc (rfl : x_275.toInt = _) (iL (0) (0) rfl) (fun c_278e c_278 => ?_) (fun c_278e c_278 => ?_)
        · unfold fX10_readLetter_n88
          refine zH_eqc (rfl : x_275.toInt = _) (iL (0) (0) rfl) (fun c_279e c_279 => ?_) (fun c_279e c_279 => ?_)
          · unfold fX10_readLetter_n99
            refine zH_eqc (iL (1) (1) rfl) (iL (0) (0) rfl) (fun c_280e c_280 => ?_) (fun c_280e c_280 => ?_)
            · refine zH_ck (zIn (rfl : a1.toInt = _) (by omega) (by omega)) ?_
              refine zH_eqc (rfl : (μ 9 (a1).toNatClampNeg).toInt = _) (iL (1) (1) rfl) (fun c_281e c_281 => ?_) (fun c_281e c_281 => ?_)
              · unfold fX10_readLetter_n117
                refine zH_bd (tX10_await hp0 h (by omega) (by omega) (by omega) (by omega)) (fun μ_282 p_283 => ?_)
                have h_284 : J w L M μ_282 := p_283
                exact zH_some h_284
              · refine zH_ck (zIn (rfl : x_1.toInt = _) (by omega) (by omega)) ?_
                refine zH_eqc (rfl : (μ (p0 + 13) (x_1).toNatClampNeg).toInt = _) (iL (-1) (-1) rfl) (fun c_285e c_285 => ?_) (fun c_285e c_285 => ?_)
                · refine zH_ck (zIn (rfl : x_1.toInt = _) (by omega) (by omega)) ?_
                  refine zH_lt (fun μ_286 e_287 => ?_)
                  have h_288 : J w L M μ_286 := by rw [e_287]; exact J.upf h (a := (p0 + 13)) (k := (1, 30)) (hp0.1.1 13 (by decide)) (fx34 (by have := hp0.1.2.2; omega) (by have := hp0.1.2.1; omega)) (by decide) (by decide) (Or.inl (by have := hp0.1.2.2; omega)) rfl
                  unfold fX10_readLetter_n155
                  refine zH_ck (zIn (rfl : x_1.toInt = _) (by omega) (by omega)) ?_
                  refine zH_ck (zIn (rfl : a1.toInt = _) (by omega) (by omega)) ?_
                  refine zH_ltc (rfl : ((μ_286 p0 0) - (μ_286 (p0 + 13) (x_1).toNatClampNeg)).toInt = _) (rfl : (μ_286 8 (a1).toNatClampNeg).toInt = _) (fun c_289 => ?_) (fun c_289 => ?_)
                  · refine zH_ck (zIn (rfl : x_1.toInt = _) (by omega) (by omega)) ?_
                    refine zH_bd (tX1_patience (by omega) (by omega)) (fun x_290 p_291 => ?_)
                    refine zH_ck (zIn (rfl : x_1.toInt = _) (by omega) (by omega)) ?_
                    refine zH_lt (fun μ_292 e_293 => ?_)
                    have h_294 : J w L M μ_292 := by rw [e_293]; exact J.upf h_288 (a := (p0 + 12)) (k := (1, 30)) (hp0.1.1 12 (by decide)) (fx34 (by have := hp0.1.2.2; omega) (by have := hp0.1.2.1; omega)) (by decide) (by decide) (Or.inl (by have := hp0.1.2.2; omega)) rfl
                    exact zH_some h_294
                  · refine zH_bd (tX10_hold hp0 h_288 (by omega) (by omega) (by omega) (by omega)) (fun μ_295 p_296 => ?_)
                    have h_297 : J w L M μ_295 := p_296
                    exact zH_some h_297
                · unfold fX10_readLetter_n155
                  refine zH_ck (zIn (rfl : x_1.toInt = _) (by omega) (by omega)) ?_
                  refine zH_ck (zIn (rfl : a1.toInt = _) (by omega) (by omega)) ?_
                  refine zH_ltc (rfl : ((μ p0 0) - (μ (p0 + 13) (x_1).toNatClampNeg)).toInt = _) (rfl : (μ 8 (a1).toNatClampNeg).toInt = _) (fun c_298 => ?_) (fun c_298 => ?_)
                  · refine zH_ck (zIn (rfl : x_1.toInt = _) (by omega) (by omega)) ?_
                    refine zH_bd (tX1_patience (by omega) (by omega)) (fun x_299 p_300 => ?_)
                    refine zH_ck (zIn (rfl : x_1.toInt = _) (by omega) (by omega)) ?_
                    refine zH_lt (fun μ_301 e_302 => ?_)
                    have h_303 : J w L M μ_301 := by rw [e_302]; exact J.upf h (a := (p0 + 12)) (k := (1, 30)) (hp0.1.1 12 (by decide)) (fx34 (by have := hp0.1.2.2; omega) (by have := hp0.1.2.1; omega)) (by decide) (by decide) (Or.inl (by have := hp0.1.2.2; omega)) rfl
                    exact zH_some h_303
                  · refine zH_bd (tX10_hold hp0 h (by omega) (by omega) (by omega) (by omega)) (fun μ_304 p_305 => ?_)
                    have h_306 : J w L M μ_304 := p_305
                    exact zH_some h_306
            · unfold fX10_readLetter_n117
              refine zH_bd (tX10_await hp0 h (by omega) (by omega) (by omega) (by omega)) (fun μ_307 p_308 => ?_)
              have h_309 : J w L M μ_307 := p_308
              exact zH_some h_309
          · refine zH_bd (tX10_giveUp hp0 h (by omega) (by omega)) (fun μ_310 p_311 => ?_)
            have h_312 : J w L M μ_310 := p_311
            unfold fX10_readLetter_n99
            refine zH_eqc (iL (1) (1) rfl) (iL (0) (0) rfl) (fun c_313e c_313 => ?_) (fun c_313e c_313 => ?_)
            · refine zH_ck (zIn (rfl : a1.toInt = _) (by omega) (by omega)) ?_
              refine zH_eqc (rfl : (μ_310 9 (a1).toNatClampNeg).toInt = _) (iL (1) (1) rfl) (fun c_314e c_314 => ?_) (fun c_314e c_314 => ?_)
              · unfold fX10_readLetter_n117
                refine zH_bd (tX10_await hp0 h_312 (by omega) (by omega) (by omega) (by omega)) (fun μ_315 p_316 => ?_)
                have h_317 : J w L M μ_315 := p_316
                exact zH_some h_317
              · refine zH_ck (zIn (rfl : x_1.toInt = _) (by omega) (by omega)) ?_
                refine zH_eqc (rfl : (μ_310 (p0 + 13) (x_1).toNatClampNeg).toInt = _) (iL (-1) (-1) rfl) (fun c_318e c_318 => ?_) (fun c_318e c_318 => ?_)
                · refine zH_ck (zIn (rfl : x_1.toInt = _) (by omega) (by omega)) ?_
                  refine zH_lt (fun μ_319 e_320 => ?_)
                  have h_321 : J w L M μ_319 := by rw [e_320]; exact J.upf h_312 (a := (p0 + 13)) (k := (1, 30)) (hp0.1.1 13 (by decide)) (fx34 (by have := hp0.1.2.2; omega) (by have := hp0.1.2.1; omega)) (by decide) (by decide) (Or.inl (by have := hp0.1.2.2; omega)) rfl
                  unfold fX10_readLetter_n155
                  refine zH_ck (zIn (rfl : x_1.toInt = _) (by omega) (by omega)) ?_
                  refine zH_ck (zIn (rfl : a1.toInt = _) (by omega) (by omega)) ?_
                  refine zH_ltc (rfl : ((μ_319 p0 0) - (μ_319 (p0 + 13) (x_1).toNatClampNeg)).toInt = _) (rfl : (μ_319 8 (a1).toNatClampNeg).toInt = _) (fun c_322 => ?_) (fun c_322 => ?_)
                  · refine zH_ck (zIn (rfl : x_1.toInt = _) (by omega) (by omega)) ?_
                    refine zH_bd (tX1_patience (by omega) (by omega)) (fun x_323 p_324 => ?_)
                    refine zH_ck (zIn (rfl : x_1.toInt = _) (by omega) (by omega)) ?_
                    refine zH_lt (fun μ_325 e_326 => ?_)
                    have h_327 : J w L M μ_325 := by rw [e_326]; exact J.upf h_321 (a := (p0 + 12)) (k := (1, 30)) (hp0.1.1 12 (by decide)) (fx34 (by have := hp0.1.2.2; omega) (by have := hp0.1.2.1; omega)) (by decide) (by decide) (Or.inl (by have := hp0.1.2.2; omega)) rfl
                    exact zH_some h_327
                  · refine zH_bd (tX10_hold hp0 h_321 (by omega) (by omega) (by omega) (by omega)) (fun μ_328 p_329 => ?_)
                    have h_330 : J w L M μ_328 := p_329
                    exact zH_some h_330
                · unfold fX10_readLetter_n155
                  refine zH_ck (zIn (rfl : x_1.toInt = _) (by omega) (by omega)) ?_
                  refine zH_ck (zIn (rfl : a1.toInt = _) (by omega) (by omega)) ?_
                  refine zH_ltc (rfl : ((μ_310 p0 0) - (μ_310 (p0 + 13) (x_1).toNatClampNeg)).toInt = _) (rfl : (μ_310 8 (a1).toNatClampNeg).toInt = _) (fun c_331 => ?_) (fun c_331 => ?_)
                  · refine zH_ck (zIn (rfl : x_1.toInt = _) (by omega) (by omega)) ?_
                    refine zH_bd (tX1_patience (by omega) (by omega)) (fun x_332 p_333 => ?_)
                    refine zH_ck (zIn (rfl : x_1.toInt = _) (by omega) (by omega)) ?_
                    refine zH_lt (fun μ_334 e_335 => ?_)
                    have h_336 : J w L M μ_334 := by rw [e_335]; exact J.upf h_312 (a := (p0 + 12)) (k := (1, 30)) (hp0.1.1 12 (by decide)) (fx34 (by have := hp0.1.2.2; omega) (by have := hp0.1.2.1; omega)) (by decide) (by decide) (Or.inl (by have := hp0.1.2.2; omega)) rfl
                    exact zH_some h_336
                  · refine zH_bd (tX10_hold hp0 h_312 (by omega) (by omega) (by omega) (by omega)) (fun μ_337 p_338 => ?_)
                    have h_339 : J w L M μ_337 := p_338
                    exact zH_some h_339
            · unfold fX10_readLetter_n117
              refine zH_bd (tX10_await hp0 h_312 (by omega) (by omega) (by omega) (by omega)) (fun μ_340 p_341 => ?_)
              have h_342 : J w L M μ_340 := p_341
              exact zH_some h_342
        · refine zH_eqc (iL (1) (1) rfl) (iL (0) (0) rfl) (fun c_343e c_343 => ?_) (fun c_343e c_343 => ?_)
          · exact zH_some h
          · unfold fX10_readLetter_n88
            refine zH_eqc (rfl : x_275.toInt = _) (iL (0) (0) rfl) (fun c_344e c_344 => ?_) (fun c_344e c_344 => ?_)
            · unfold fX10_readLetter_n99
              refine zH_eqc (iL (1) (1) rfl) (iL (0) (0) rfl) (fun c_345e c_345 => ?_) (fun c_345e c_345 => ?_)
              · refine zH_ck (zIn (rfl : a1.toInt = _) (by omega) (by omega)) ?_
                refine zH_eqc (rfl : (μ 9 (a1).toNatClampNeg).toInt = _) (iL (1) (1) rfl) (fun c_346e c_346 => ?_) (fun c_346e c_346 => ?_)
                · unfold fX10_readLetter_n117
                  refine zH_bd (tX10_await hp0 h (by omega) (by omega) (by omega) (by omega)) (fun μ_347 p_348 => ?_)
                  have h_349 : J w L M μ_347 := p_348
                  exact zH_some h_349
                · refine zH_ck (zIn (rfl : x_1.toInt = _) (by omega) (by omega)) ?_
                  refine zH_eqc (rfl : (μ (p0 + 13) (x_1).toNatClampNeg).toInt = _) (iL (-1) (-1) rfl) (fun c_350e c_350 => ?_) (fun c_350e c_350 => ?_)
                  · refine zH_ck (zIn (rfl : x_1.toInt = _) (by omega) (by omega)) ?_
                    refine zH_lt (fun μ_351 e_352 => ?_)
                    have h_353 : J w L M μ_351 := by rw [e_352]; exact J.upf h (a := (p0 + 13)) (k := (1, 30)) (hp0.1.1 13 (by decide)) (fx34 (by have := hp0.1.2.2; omega) (by have := hp0.1.2.1; omega)) (by decide) (by decide) (Or.inl (by have := hp0.1.2.2; omega)) rfl
                    unfold fX10_readLetter_n155
                    refine zH_ck (zIn (rfl : x_1.toInt = _) (by omega) (by omega)) ?_
                    refine zH_ck (zIn (rfl : a1.toInt = _) (by omega) (by omega)) ?_
                    refine zH_ltc (rfl : ((μ_351 p0 0) - (μ_351 (p0 + 13) (x_1).toNatClampNeg)).toInt = _) (rfl : (μ_351 8 (a1).toNatClampNeg).toInt = _) (fun c_354 => ?_) (fun c_354 => ?_)
                    · refine zH_ck (zIn (rfl : x_1.toInt = _) (by omega) (by omega)) ?_
                      refine zH_bd (tX1_patience (by omega) (by omega)) (fun x_355 p_356 => ?_)
                      refine zH_ck (zIn (rfl : x_1.toInt = _) (by omega) (by omega)) ?_
                      refine zH_lt (fun μ_357 e_358 => ?_)
                      have h_359 : J w L M μ_357 := by rw [e_358]; exact J.upf h_353 (a := (p0 + 12)) (k := (1, 30)) (hp0.1.1 12 (by decide)) (fx34 (by have := hp0.1.2.2; omega) (by have := hp0.1.2.1; omega)) (by decide) (by decide) (Or.inl (by have := hp0.1.2.2; omega)) rfl
                      exact zH_some h_359
                    · refine zH_bd (tX10_hold hp0 h_353 (by omega) (by omega) (by omega) (by omega)) (fun μ_360 p_361 => ?_)
                      have h_362 : J w L M μ_360 := p_361
                      exact zH_some h_362
                  · unfold fX10_readLetter_n155
                    refine zH_ck (zIn (rfl : x_1.toInt = _) (by omega) (by omega)) ?_
                    refine zH_ck (zIn (rfl : a1.toInt = _) (by omega) (by omega)) ?_
                    refine zH_ltc (rfl : ((μ p0 0) - (μ (p0 + 13) (x_1).toNatClampNeg)).toInt = _) (rfl : (μ 8 (a1).toNatClampNeg).toInt = _) (fun c_363 => ?_) (fun c_363 => ?_)
                    · refine zH_ck (zIn (rfl : x_1.toInt = _) (by omega) (by omega)) ?_
                      refine zH_bd (tX1_patience (by omega) (by omega)) (fun x_364 p_365 => ?_)
                      refine zH_ck (zIn (rfl : x_1.toInt = _) (by omega) (by omega)) ?_
                      refine zH_lt (fun μ_366 e_367 => ?_)
                      have h_368 : J w L M μ_366 := by rw [e_367]; exact J.upf h (a := (p0 + 12)) (k := (1, 30)) (hp0.1.1 12 (by decide)) (fx34 (by have := hp0.1.2.2; omega) (by have := hp0.1.2.1; omega)) (by decide) (by decide) (Or.inl (by have := hp0.1.2.2; omega)) rfl
                      exact zH_some h_368
                    · refine zH_bd (tX10_hold hp0 h (by omega) (by omega) (by omega) (by omega)) (fun μ_369 p_370 => ?_)
                      have h_371 : J w L M μ_369 := p_370
                      exact zH_some h_371
              · unfold fX10_readLetter_n117
                refine zH_bd (tX10_await hp0 h (by omega) (by omega) (by omega) (by omega)) (fun μ_372 p_373 => ?_)
                have h_374 : J w L M μ_372 := p_373
                exact zH_some h_374
            · refine zH_bd (tX10_giveUp hp0 h (by omega) (by omega)) (fun μ_375 p_376 => ?_)
              have h_377 : J w L M μ_375 := p_376
              unfold fX10_readLetter_n99
              refine zH_eqc (iL (1) (1) rfl) (iL (0) (0) rfl) (fun c_378e c_378 => ?_) (fun c_378e c_378 => ?_)
              · refine zH_ck (zIn (rfl : a1.toInt = _) (by omega) (by omega)) ?_
                refine zH_eqc (rfl : (μ_375 9 (a1).toNatClampNeg).toInt = _) (iL (1) (1) rfl) (fun c_379e c_379 => ?_) (fun c_379e c_379 => ?_)
                · unfold fX10_readLetter_n117
                  refine zH_bd (tX10_await hp0 h_377 (by omega) (by omega) (by omega) (by omega)) (fun μ_380 p_381 => ?_)
                  have h_382 : J w L M μ_380 := p_381
                  exact zH_some h_382
                · refine zH_ck (zIn (rfl : x_1.toInt = _) (by omega) (by omega)) ?_
                  refine zH_eqc (rfl : (μ_375 (p0 + 13) (x_1).toNatClampNeg).toInt = _) (iL (-1) (-1) rfl) (fun c_383e c_383 => ?_) (fun c_383e c_383 => ?_)
                  · refine zH_ck (zIn (rfl : x_1.toInt = _) (by omega) (by omega)) ?_
                    refine zH_lt (fun μ_384 e_385 => ?_)
                    have h_386 : J w L M μ_384 := by rw [e_385]; exact J.upf h_377 (a := (p0 + 13)) (k := (1, 30)) (hp0.1.1 13 (by decide)) (fx34 (by have := hp0.1.2.2; omega) (by have := hp0.1.2.1; omega)) (by decide) (by decide) (Or.inl (by have := hp0.1.2.2; omega)) rfl
                    unfold fX10_readLetter_n155
                    refine zH_ck (zIn (rfl : x_1.toInt = _) (by omega) (by omega)) ?_
                    refine zH_ck (zIn (rfl : a1.toInt = _) (by omega) (by omega)) ?_
                    refine zH_ltc (rfl : ((μ_384 p0 0) - (μ_384 (p0 + 13) (x_1).toNatClampNeg)).toInt = _) (rfl : (μ_384 8 (a1).toNatClampNeg).toInt = _) (fun c_387 => ?_) (fun c_387 => ?_)
                    · refine zH_ck (zIn (rfl : x_1.toInt = _) (by omega) (by omega)) ?_
                      refine zH_bd (tX1_patience (by omega) (by omega)) (fun x_388 p_389 => ?_)
                      refine zH_ck (zIn (rfl : x_1.toInt = _) (by omega) (by omega)) ?_
                      refine zH_lt (fun μ_390 e_391 => ?_)
                      have h_392 : J w L M μ_390 := by rw [e_391]; exact J.upf h_386 (a := (p0 + 12)) (k := (1, 30)) (hp0.1.1 12 (by decide)) (fx34 (by have := hp0.1.2.2; omega) (by have := hp0.1.2.1; omega)) (by decide) (by decide) (Or.inl (by have := hp0.1.2.2; omega)) rfl
                      exact zH_some h_392
                    · refine zH_bd (tX10_hold hp0 h_386 (by omega) (by omega) (by omega) (by omega)) (fun μ_393 p_394 => ?_)
                      have h_395 : J w L M μ_393 := p_394
                      exact zH_some h_395
                  · unfold fX10_readLetter_n155
                    refine zH_ck (zIn (rfl : x_1.toInt = _) (by omega) (by omega)) ?_
                    refine zH_ck (zIn (rfl : a1.toInt = _) (by omega) (by omega)) ?_
                    refine zH_ltc (rfl : ((μ_375 p0 0) - (μ_375 (p0 + 13) (x_1).toNatClampNeg)).toInt = _) (rfl : (μ_375 8 (a1).toNatClampNeg).toInt = _) (fun c_396 => ?_) (fun c_396 => ?_)
                    · refine zH_ck (zIn (rfl : x_1.toInt = _) (by omega) (by omega)) ?_
                      refine zH_bd (tX1_patience (by omega) (by omega)) (fun x_397 p_398 => ?_)
                      refine zH_ck (zIn (rfl : x_1.toInt = _) (by omega) (by omega)) ?_
                      refine zH_lt (fun μ_399 e_400 => ?_)
                      have h_401 : J w L M μ_399 := by rw [e_400]; exact J.upf h_377 (a := (p0 + 12)) (k := (1, 30)) (hp0.1.1 12 (by decide)) (fx34 (by have := hp0.1.2.2; omega) (by have := hp0.1.2.1; omega)) (by decide) (by decide) (Or.inl (by have := hp0.1.2.2; omega)) rfl
                      exact zH_some h_401
                    · refine zH_bd (tX10_hold hp0 h_377 (by omega) (by omega) (by omega) (by omega)) (fun μ_402 p_403 => ?_)
                      have h_404 : J w L M μ_402 := p_403
                      exact zH_some h_404
              · unfold fX10_readLetter_n117
                refine zH_bd (tX10_await hp0 h_377 (by omega) (by omega) (by omega) (by omega)) (fun μ_405 p_406 => ?_)
                have h_407 : J w L M μ_405 := p_406
                exact zH_some h_407
    · unfold fX10_readLetter_n64
      refine zH_bd (tX9_isHeld (by omega) (by omega)) (fun x_408 p_409 => ?_)
      have q_410 : x_408.toInt = 0 ∨ x_408.toInt = 1 := p_409
      refine zH_eqc (rfl : x_408.toInt = _) (iL (0) (0) rfl) (fun c_411e c_411 => ?_) (fun c_411e c_411 => ?_)
      · unfold fX10_readLetter_n88
        refine zH_eqc (rfl : x_408.toInt = _) (iL (0) (0) rfl) (fun c_412e c_412 => ?_) (fun c_412e c_412 => ?_)
        · unfold fX10_readLetter_n99
          refine zH_eqc (iL (0) (0) rfl) (iL (0) (0) rfl) (fun c_413e c_413 => ?_) (fun c_413e c_413 => ?_)
          · refine zH_ck (zIn (rfl : a1.toInt = _) (by omega) (by omega)) ?_
            refine zH_eqc (rfl : (μ 9 (a1).toNatClampNeg).toInt = _) (iL (1) (1) rfl) (fun c_414e c_414 => ?_) (fun c_414e c_414 => ?_)
            · unfold fX10_readLetter_n117
              refine zH_bd (tX10_await hp0 h (by omega) (by omega) (by omega) (by omega)) (fun μ_415 p_416 => ?_)
              have h_417 : J w L M μ_415 := p_416
              exact zH_some h_417
            · refine zH_ck (zIn (rfl : x_1.toInt = _) (by omega) (by omega)) ?_
              refine zH_eqc (rfl : (μ (p0 + 13) (x_1).toNatClampNeg).toInt = _) (iL (-1) (-1) rfl) (fun c_418e c_418 => ?_) (fun c_418e c_418 => ?_)
              · refine zH_ck (zIn (rfl : x_1.toInt = _) (by omega) (by omega)) ?_
                refine zH_lt (fun μ_419 e_420 => ?_)
                have h_421 : J w L M μ_419 := by rw [e_420]; exact J.upf h (a := (p0 + 13)) (k := (1, 30)) (hp0.1.1 13 (by decide)) (fx34 (by have := hp0.1.2.2; omega) (by have := hp0.1.2.1; omega)) (by decide) (by decide) (Or.inl (by have := hp0.1.2.2; omega)) rfl
                unfold fX10_readLetter_n155
                refine zH_ck (zIn (rfl : x_1.toInt = _) (by omega) (by omega)) ?_
                refine zH_ck (zIn (rfl : a1.toInt = _) (by omega) (by omega)) ?_
                refine zH_ltc (rfl : ((μ_419 p0 0) - (μ_419 (p0 + 13) (x_1).toNatClampNeg)).toInt = _) (rfl : (μ_419 8 (a1).toNatClampNeg).toInt = _) (fun c_422 => ?_) (fun c_422 => ?_)
                · refine zH_ck (zIn (rfl : x_1.toInt = _) (by omega) (by omega)) ?_
                  refine zH_bd (tX1_patience (by omega) (by omega)) (fun x_423 p_424 => ?_)
                  refine zH_ck (zIn (rfl : x_1.toInt = _) (by omega) (by omega)) ?_
                  refine zH_lt (fun μ_425 e_426 => ?_)
                  have h_427 : J w L M μ_425 := by rw [e_426]; exact J.upf h_421 (a := (p0 + 12)) (k := (1, 30)) (hp0.1.1 12 (by decide)) (fx34 (by have := hp0.1.2.2; omega) (by have := hp0.1.2.1; omega)) (by decide) (by decide) (Or.inl (by have := hp0.1.2.2; omega)) rfl
                  exact zH_some h_427
                · refine zH_bd (tX10_hold hp0 h_421 (by omega) (by omega) (by omega) (by omega)) (fun μ_428 p_429 => ?_)
                  have h_430 : J w L M μ_428 := p_429
                  exact zH_some h_430
              · unfold fX10_readLetter_n155
                refine zH_ck (zIn (rfl : x_1.toInt = _) (by omega) (by omega)) ?_
                refine zH_ck (zIn (rfl : a1.toInt = _) (by omega) (by omega)) ?_
                refine zH_ltc (rfl : ((μ p0 0) - (μ (p0 + 13) (x_1).toNatClampNeg)).toInt = _) (rfl : (μ 8 (a1).toNatClampNeg).toInt = _) (fun c_431 => ?_) (fun c_431 => ?_)
                · refine zH_ck (zIn (rfl : x_1.toInt = _) (by omega) (by omega)) ?_
                  refine zH_bd (tX1_patience (by omega) (by omega)) (fun x_432 p_433 => ?_)
                  refine zH_ck (zIn (rfl : x_1.toInt = _) (by omega) (by omega)) ?_
                  refine zH_lt (fun μ_434 e_435 => ?_)
                  have h_436 : J w L M μ_434 := by rw [e_435]; exact J.upf h (a := (p0 + 12)) (k := (1, 30)) (hp0.1.1 12 (by decide)) (fx34 (by have := hp0.1.2.2; omega) (by have := hp0.1.2.1; omega)) (by decide) (by decide) (Or.inl (by have := hp0.1.2.2; omega)) rfl
                  exact zH_some h_436
                · refine zH_bd (tX10_hold hp0 h (by omega) (by omega) (by omega) (by omega)) (fun μ_437 p_438 => ?_)
                  have h_439 : J w L M μ_437 := p_438
                  exact zH_some h_439
          · unfold fX10_readLetter_n117
            refine zH_bd (tX10_await hp0 h (by omega) (by omega) (by omega) (by omega)) (fun μ_440 p_441 => ?_)
            have h_442 : J w L M μ_440 := p_441
            exact zH_some h_442
        · refine zH_bd (tX10_giveUp hp0 h (by omega) (by omega)) (fun μ_443 p_444 => ?_)
          have h_445 : J w L M μ_443 := p_444
          unfold fX10_readLetter_n99
          refine zH_eqc (iL (0) (0) rfl) (iL (0) (0) rfl) (fun c_446e c_446 => ?_) (fun c_446e c_446 => ?_)
          · refine zH_ck (zIn (rfl : a1.toInt = _) (by omega) (by omega)) ?_
            refine zH_eqc (rfl : (μ_443 9 (a1).toNatClampNeg).toInt = _) (iL (1) (1) rfl) (fun c_447e c_447 => ?_) (fun c_447e c_447 => ?_)
            · unfold fX10_readLetter_n117
              refine zH_bd (tX10_await hp0 h_445 (by omega) (by omega) (by omega) (by omega)) (fun μ_448 p_449 => ?_)
              have h_450 : J w L M μ_448 := p_449
              exact zH_some h_450
            · refine zH_ck (zIn (rfl : x_1.toInt = _) (by omega) (by omega)) ?_
              refine zH_eqc (rfl : (μ_443 (p0 + 13) (x_1).toNatClampNeg).toInt = _) (iL (-1) (-1) rfl) (fun c_451e c_451 => ?_) (fun c_451e c_451 => ?_)
              · refine zH_ck (zIn (rfl : x_1.toInt = _) (by omega) (by omega)) ?_
                refine zH_lt (fun μ_452 e_453 => ?_)
                have h_454 : J w L M μ_452 := by rw [e_453]; exact J.upf h_445 (a := (p0 + 13)) (k := (1, 30)) (hp0.1.1 13 (by decide)) (fx34 (by have := hp0.1.2.2; omega) (by have := hp0.1.2.1; omega)) (by decide) (by decide) (Or.inl (by have := hp0.1.2.2; omega)) rfl
                unfold fX10_readLetter_n155
                refine zH_ck (zIn (rfl : x_1.toInt = _) (by omega) (by omega)) ?_
                refine zH_ck (zIn (rfl : a1.toInt = _) (by omega) (by omega)) ?_
                refine zH_ltc (rfl : ((μ_452 p0 0) - (μ_452 (p0 + 13) (x_1).toNatClampNeg)).toInt = _) (rfl : (μ_452 8 (a1).toNatClampNeg).toInt = _) (fun c_455 => ?_) (fun c_455 => ?_)
                · refine zH_ck (zIn (rfl : x_1.toInt = _) (by omega) (by omega)) ?_
                  refine zH_bd (tX1_patience (by omega) (by omega)) (fun x_456 p_457 => ?_)
                  refine zH_ck (zIn (rfl : x_1.toInt = _) (by omega) (by omega)) ?_
                  refine zH_lt (fun μ_458 e_459 => ?_)
                  have h_460 : J w L M μ_458 := by rw [e_459]; exact J.upf h_454 (a := (p0 + 12)) (k := (1, 30)) (hp0.1.1 12 (by decide)) (fx34 (by have := hp0.1.2.2; omega) (by have := hp0.1.2.1; omega)) (by decide) (by decide) (Or.inl (by have := hp0.1.2.2; omega)) rfl
                  exact zH_some h_460
                · refine zH_bd (tX10_hold hp0 h_454 (by omega) (by omega) (by omega) (by omega)) (fun μ_461 p_462 => ?_)
                  have h_463 : J w L M μ_461 := p_462
                  exact zH_some h_463
              · unfold fX10_readLetter_n155
                refine zH_ck (zIn (rfl : x_1.toInt = _) (by omega) (by omega)) ?_
                refine zH_ck (zIn (rfl : a1.toInt = _) (by omega) (by omega)) ?_
                refine zH_ltc (rfl : ((μ_443 p0 0) - (μ_443 (p0 + 13) (x_1).toNatClampNeg)).toInt = _) (rfl : (μ_443 8 (a1).toNatClampNeg).toInt = _) (fun c_464 => ?_) (fun c_464 => ?_)
                · refine zH_ck (zIn (rfl : x_1.toInt = _) (by omega) (by omega)) ?_
                  refine zH_bd (tX1_patience (by omega) (by omega)) (fun x_465 p_466 => ?_)
                  refine zH_ck (zIn (rfl : x_1.toInt = _) (by omega) (by omega)) ?_
                  refine zH_lt (fun μ_467 e_468 => ?_)
                  have h_469 : J w L M μ_467 := by rw [e_468]; exact J.upf h_445 (a := (p0 + 12)) (k := (1, 30)) (hp0.1.1 12 (by decide)) (fx34 (by have := hp0.1.2.2; omega) (by have := hp0.1.2.1; omega)) (by decide) (by decide) (Or.inl (by have := hp0.1.2.2; omega)) rfl
                  exact zH_some h_469
                · refine zH_bd (tX10_hold hp0 h_445 (by omega) (by omega) (by omega) (by omega)) (fun μ_470 p_471 => ?_)
                  have h_472 : J w L M μ_470 := p_471
                  exact zH_some h_472
          · unfold fX10_readLetter_n117
            refine zH_bd (tX10_await hp0 h_445 (by omega) (by omega) (by omega) (by omega)) (fun μ_473 p_474 => ?_)
            have h_475 : J w L M μ_473 := p_474
            exact zH_some h_475
      · refine zH_eqc (iL (0) (0) rfl) (iL (0) (0) rfl) (fun c_476e c_476 => ?_) (fun c_476e c_476 => ?_)
        · exact zH_some h
        · unfold fX10_readLetter_n88
          refine zH_eqc (rfl : x_408.toInt = _) (iL (0) (0) rfl) (fun c_477e c_477 => ?_) (fun c_477e c_477 => ?_)
          · unfold fX10_readLetter_n99
            refine zH_eqc (iL (0) (0) rfl) (iL (0) (0) rfl) (fun c_478e c_478 => ?_) (fun c_478e c_478 => ?_)
            · refine zH_ck (zIn (rfl : a1.toInt = _) (by omega) (by omega)) ?_
              refine zH_eqc (rfl : (μ 9 (a1).toNatClampNeg).toInt = _) (iL (1) (1) rfl) (fun c_479e c_479 => ?_) (fun c_479e c_479 => ?_)
              · unfold fX10_readLetter_n117
                refine zH_bd (tX10_await hp0 h (by omega) (by omega) (by omega) (by omega)) (fun μ_480 p_481 => ?_)
                have h_482 : J w L M μ_480 := p_481
                exact zH_some h_482
              · refine zH_ck (zIn (rfl : x_1.toInt = _) (by omega) (by omega)) ?_
                refine zH_eqc (rfl : (μ (p0 + 13) (x_1).toNatClampNeg).toInt = _) (iL (-1) (-1) rfl) (fun c_483e c_483 => ?_) (fun c_483e c_483 => ?_)
                · refine zH_ck (zIn (rfl : x_1.toInt = _) (by omega) (by omega)) ?_
                  refine zH_lt (fun μ_484 e_485 => ?_)
                  have h_486 : J w L M μ_484 := by rw [e_485]; exact J.upf h (a := (p0 + 13)) (k := (1, 30)) (hp0.1.1 13 (by decide)) (fx34 (by have := hp0.1.2.2; omega) (by have := hp0.1.2.1; omega)) (by decide) (by decide) (Or.inl (by have := hp0.1.2.2; omega)) rfl
                  unfold fX10_readLetter_n155
                  refine zH_ck (zIn (rfl : x_1.toInt = _) (by omega) (by omega)) ?_
                  refine zH_ck (zIn (rfl : a1.toInt = _) (by omega) (by omega)) ?_
                  refine zH_ltc (rfl : ((μ_484 p0 0) - (μ_484 (p0 + 13) (x_1).toNatClampNeg)).toInt = _) (rfl : (μ_484 8 (a1).toNatClampNeg).toInt = _) (fun c_487 => ?_) (fun c_487 => ?_)
                  · refine zH_ck (zIn (rfl : x_1.toInt = _) (by omega) (by omega)) ?_
                    refine zH_bd (tX1_patience (by omega) (by omega)) (fun x_488 p_489 => ?_)
                    refine zH_ck (zIn (rfl : x_1.toInt = _) (by omega) (by omega)) ?_
                    refine zH_lt (fun μ_490 e_491 => ?_)
                    have h_492 : J w L M μ_490 := by rw [e_491]; exact J.upf h_486 (a := (p0 + 12)) (k := (1, 30)) (hp0.1.1 12 (by decide)) (fx34 (by have := hp0.1.2.2; omega) (by have := hp0.1.2.1; omega)) (by decide) (by decide) (Or.inl (by have := hp0.1.2.2; omega)) rfl
                    exact zH_some h_492
                  · refine zH_bd (tX10_hold hp0 h_486 (by omega) (by omega) (by omega) (by omega)) (fun μ_493 p_494 => ?_)
                    have h_495 : J w L M μ_493 := p_494
                    exact zH_some h_495
                · unfold fX10_readLetter_n155
                  refine zH_ck (zIn (rfl : x_1.toInt = _) (by omega) (by omega)) ?_
                  refine zH_ck (zIn (rfl : a1.toInt = _) (by omega) (by omega)) ?_
                  refine zH_ltc (rfl : ((μ p0 0) - (μ (p0 + 13) (x_1).toNatClampNeg)).toInt = _) (rfl : (μ 8 (a1).toNatClampNeg).toInt = _) (fun c_496 => ?_) (fun c_496 => ?_)
                  · refine zH_ck (zIn (rfl : x_1.toInt = _) (by omega) (by omega)) ?_
                    refine zH_bd (tX1_patience (by omega) (by omega)) (fun x_497 p_498 => ?_)
                    refine zH_ck (zIn (rfl : x_1.toInt = _) (by omega) (by omega)) ?_
                    refine zH_lt (fun μ_499 e_500 => ?_)
                    have h_501 : J w L M μ_499 := by rw [e_500]; exact J.upf h (a := (p0 + 12)) (k := (1, 30)) (hp0.1.1 12 (by decide)) (fx34 (by have := hp0.1.2.2; omega) (by have := hp0.1.2.1; omega)) (by decide) (by decide) (Or.inl (by have := hp0.1.2.2; omega)) rfl
                    exact zH_some h_501
                  · refine zH_bd (tX10_hold hp0 h (by omega) (by omega) (by omega) (by omega)) (fun μ_502 p_503 => ?_)
                    have h_504 : J w L M μ_502 := p_503
                    exact zH_some h_504
            · unfold fX10_readLetter_n117
              refine zH_bd (tX10_await hp0 h (by omega) (by omega) (by omega) (by omega)) (fun μ_505 p_506 => ?_)
              have h_507 : J w L M μ_505 := p_506
              exact zH_some h_507
          · refine zH_bd (tX10_giveUp hp0 h (by omega) (by omega)) (fun μ_508 p_509 => ?_)
            have h_510 : J w L M μ_508 := p_509
            unfold fX10_readLetter_n99
            refine zH_eqc (iL (0) (0) rfl) (iL (0) (0) rfl) (fun c_511e c_511 => ?_) (fun c_511e c_511 => ?_)
            · refine zH_ck (zIn (rfl : a1.toInt = _) (by omega) (by omega)) ?_
              refine zH_eqc (rfl : (μ_508 9 (a1).toNatClampNeg).toInt = _) (iL (1) (1) rfl) (fun c_512e c_512 => ?_) (fun c_512e c_512 => ?_)
              · unfold fX10_readLetter_n117
                refine zH_bd (tX10_await hp0 h_510 (by omega) (by omega) (by omega) (by omega)) (fun μ_513 p_514 => ?_)
                have h_515 : J w L M μ_513 := p_514
                exact zH_some h_515
              · refine zH_ck (zIn (rfl : x_1.toInt = _) (by omega) (by omega)) ?_
                refine zH_eqc (rfl : (μ_508 (p0 + 13) (x_1).toNatClampNeg).toInt = _) (iL (-1) (-1) rfl) (fun c_516e c_516 => ?_) (fun c_516e c_516 => ?_)
                · refine zH_ck (zIn (rfl : x_1.toInt = _) (by omega) (by omega)) ?_
                  refine zH_lt (fun μ_517 e_518 => ?_)
                  have h_519 : J w L M μ_517 := by rw [e_518]; exact J.upf h_510 (a := (p0 + 13)) (k := (1, 30)) (hp0.1.1 13 (by decide)) (fx34 (by have := hp0.1.2.2; omega) (by have := hp0.1.2.1; omega)) (by decide) (by decide) (Or.inl (by have := hp0.1.2.2; omega)) rfl
                  unfold fX10_readLetter_n155
                  refine zH_ck (zIn (rfl : x_1.toInt = _) (by omega) (by omega)) ?_
                  refine zH_ck (zIn (rfl : a1.toInt = _) (by omega) (by omega)) ?_
                  refine zH_ltc (rfl : ((μ_517 p0 0) - (μ_517 (p0 + 13) (x_1).toNatClampNeg)).toInt = _) (rfl : (μ_517 8 (a1).toNatClampNeg).toInt = _) (fun c_520 => ?_) (fun c_520 => ?_)
                  · refine zH_ck (zIn (rfl : x_1.toInt = _) (by omega) (by omega)) ?_
                    refine zH_bd (tX1_patience (by omega) (by omega)) (fun x_521 p_522 => ?_)
                    refine zH_ck (zIn (rfl : x_1.toInt = _) (by omega) (by omega)) ?_
                    refine zH_lt (fun μ_523 e_524 => ?_)
                    have h_525 : J w L M μ_523 := by rw [e_524]; exact J.upf h_519 (a := (p0 + 12)) (k := (1, 30)) (hp0.1.1 12 (by decide)) (fx34 (by have := hp0.1.2.2; omega) (by have := hp0.1.2.1; omega)) (by decide) (by decide) (Or.inl (by have := hp0.1.2.2; omega)) rfl
                    exact zH_some h_525
                  · refine zH_bd (tX10_hold hp0 h_519 (by omega) (by omega) (by omega) (by omega)) (fun μ_526 p_527 => ?_)
                    have h_528 : J w L M μ_526 := p_527
                    exact zH_some h_528
                · unfold fX10_readLetter_n155
                  refine zH_ck (zIn (rfl : x_1.toInt = _) (by omega) (by omega)) ?_
                  refine zH_ck (zIn (rfl : a1.toInt = _) (by omega) (by omega)) ?_
                  refine zH_ltc (rfl : ((μ_508 p0 0) - (μ_508 (p0 + 13) (x_1).toNatClampNeg)).toInt = _) (rfl : (μ_508 8 (a1).toNatClampNeg).toInt = _) (fun c_529 => ?_) (fun c_529 => ?_)
                  · refine zH_ck (zIn (rfl : x_1.toInt = _) (by omega) (by omega)) ?_
                    refine zH_bd (tX1_patience (by omega) (by omega)) (fun x_530 p_531 => ?_)
                    refine zH_ck (zIn (rfl : x_1.toInt = _) (by omega) (by omega)) ?_
                    refine zH_lt (fun μ_532 e_533 => ?_)
                    have h_534 : J w L M μ_532 := by rw [e_533]; exact J.upf h_510 (a := (p0 + 12)) (k := (1, 30)) (hp0.1.1 12 (by decide)) (fx34 (by have := hp0.1.2.2; omega) (by have := hp0.1.2.1; omega)) (by decide) (by decide) (Or.inl (by have := hp0.1.2.2; omega)) rfl
                    exact zH_some h_534
                  · refine zH_bd (tX10_hold hp0 h_510 (by omega) (by omega) (by omega) (by omega)) (fun μ_535 p_536 => ?_)
                    have h_537 : J w L M μ_535 := p_536
                    exact zH_some h_537
            · unfold fX10_readLetter_n117
              refine zH_bd (tX10_await hp0 h_510 (by omega) (by omega) (by omega) (by omega)) (fun μ_538 p_539 => ?_)
              have h_540 : J w L M μ_538 := p_539
              exact zH_some h_540
theorem tX10_deliver_l56 {w : Bool} {L : Int32} {M : gM} {p0 : Nat} {k2 : Int32 → Int32 → Int32 → gM → Option gM} {Q : gM → Prop} (hp0 : sW p0) : ∀ (n : Nat) (y1 : Int32) (y2 : Int32) (y3 : Int32) (y4 : Int32) (y5 : Int32) (μ : gM), (∀ (b1 : Int32) (b2 : Int32) (b3 : Int32) (ν : gM), J w L M ν → b1.toInt = y1.toInt → b3.toInt = y3.toInt + 1 → zH (k2 b1 b2 b3 ν) Q) → J w L M μ → 0 ≤ y1.toInt → y1.toInt ≤ 4 → 0 ≤ y3.toInt → y3.toInt ≤ 5 → 0 ≤ y5.toInt → y5.toInt ≤ 6 → 6 - y5.toInt < (n : Int) → zH (fX10_deliver_l56 p0 k2 n y1 y2 y3 y4 y5 μ) Q := by
  intro n
  induction n with
  | zero =>
    intro y1 y2 y3 y4 y5 μ hk0 h g0 g1 g2 g3 g4 g5 gm
    exact absurd gm (by omega)
  | succ n ih =>
    intro y1 y2 y3 y4 y5 μ hk0 h g0 g1 g2 g3 g4 g5 gm
    rw [fX10_deliver_l56]
    refine zH_lec (iL (6) (6) rfl) (rfl : y5.toInt = _) (fun c_1 => ?_) (fun c_1 => ?_)
    · refine zH_lt (fun x_2 e_3 => ?_)
      have q_4 : x_2.toInt = (y3.toInt + (1 : Int)) := (congrArg Int32.toInt e_3).trans (iA (rfl : y3.toInt = _) (iL (1) (1) rfl) (by omega) (by omega))
      exact hk0 y1 y2 x_2 μ h (by omega) (by omega)
    · refine zH_eqc (rfl : ((y4 >>> (y5 &&& 31)) &&& (1 : Int32)).toInt = _) (iL (1) (1) rfl) (fun c_5e c_5 => ?_) (fun c_5e c_5 => ?_)
      · refine zH_bp (tX10_isLost hp0 h) (fun x_6 μ_7 p_8 => ?_)
        have h_9 : J w L M μ_7 := p_8.1
        have q_10 : x_6.toInt = 0 ∨ x_6.toInt = 1 := p_8.2
        refine zH_eqc (rfl : x_6.toInt = _) (iL (0) (0) rfl) (fun c_11e c_11 => ?_) (fun c_11e c_11 => ?_)
        · refine zH_bd (tX10_readLetter hp0 h_9 (by omega) (by omega) (by omega) (by omega) (by omega) (by omega)) (fun μ_12 p_13 => ?_)
          have h_14 : J w L M μ_12 := p_13
          refine zH_lt (fun x_15 e_16 => ?_)
          have q_17 : x_15.toInt = (y5.toInt + (1 : Int)) := (congrArg Int32.toInt e_16).trans (iA (rfl : y5.toInt = _) (iL (1) (1) rfl) (by omega) (by omega))
          exact ih y1 y2 y3 y4 x_15 μ_12 (fun b_18 b_19 b_20 μ_21 h_22 c_23 c_24 => hk0 b_18 b_19 b_20 μ_21 h_22 (by omega) (by omega)) h_14 (by omega) (by omega) (by omega) (by omega) (by omega) (by omega) (by omega)
        · refine zH_lt (fun x_25 e_26 => ?_)
          have q_27 : x_25.toInt = (y5.toInt + (1 : Int)) := (congrArg Int32.toInt e_26).trans (iA (rfl : y5.toInt = _) (iL (1) (1) rfl) (by omega) (by omega))
          exact ih y1 y2 y3 y4 x_25 μ_7 (fun b_28 b_29 b_30 μ_31 h_32 c_33 c_34 => hk0 b_28 b_29 b_30 μ_31 h_32 (by omega) (by omega)) h_9 (by omega) (by omega) (by omega) (by omega) (by omega) (by omega) (by omega)
      · refine zH_lt (fun x_35 e_36 => ?_)
        have q_37 : x_35.toInt = (y5.toInt + (1 : Int)) := (congrArg Int32.toInt e_36).trans (iA (rfl : y5.toInt = _) (iL (1) (1) rfl) (by omega) (by omega))
        exact ih y1 y2 y3 y4 x_35 μ (fun b_38 b_39 b_40 μ_41 h_42 c_43 c_44 => hk0 b_38 b_39 b_40 μ_41 h_42 (by omega) (by omega)) h (by omega) (by omega) (by omega) (by omega) (by omega) (by omega) (by omega)
theorem tX10_deliver_l2 {w : Bool} {L : Int32} {M : gM} {p0 : Nat}  (hp0 : sW p0) : ∀ (n : Nat) (y1 : Int32) (y2 : Int32) (y3 : Int32) (μ : gM), J w L M μ → 0 ≤ y1.toInt → y1.toInt ≤ 4 → 0 ≤ y3.toInt → y3.toInt ≤ 6 → 6 - y3.toInt < (n : Int) → zH (fX10_deliver_l2 p0 n y1 y2 y3 μ) (fun ν => J w L M ν) := by
  intro n
  induction n with
  | zero =>
    intro y1 y2 y3 μ  h g0 g1 g2 g3 gm
    exact absurd gm (by omega)
  | succ n ih =>
    intro y1 y2 y3 μ  h g0 g1 g2 g3 gm
    rw [fX10_deliver_l2]
    refine zH_lec (iL (6) (6) rfl) (rfl : y3.toInt = _) (fun c_1 => ?_) (fun c_1 => ?_)
    · exact zH_some h
    · refine zH_eqc (rfl : ((y2 >>> (y3 &&& 31)) &&& (1 : Int32)).toInt = _) (iL (0) (0) rfl) (fun c_2e c_2 => ?_) (fun c_2e c_2 => ?_)
      · refine zH_lt (fun x_3 e_4 => ?_)
        have q_5 : x_3.toInt = (y3.toInt + (1 : Int)) := (congrArg Int32.toInt e_4).trans (iA (rfl : y3.toInt = _) (iL (1) (1) rfl) (by omega) (by omega))
        exact ih y1 y2 x_3 μ h (by omega) (by omega) (by omega) (by omega) (by omega)
      · refine zH_ck (zIn (rfl : y1.toInt = _) (by omega) (by omega)) ?_
        refine zH_bd (tX9_beside) (fun x_6 p_7 => ?_)
        refine zH_lt (fun x_8 e_9 => ?_)
        have q_10 : (0 : Int32).toInt = (0 : Int) := (iL (0) (0) rfl)
        exact tX10_deliver_l56 hp0 100000 y1 y2 y3 x_8 (0 : Int32) μ (fun b_11 b_12 b_13 μ_14 h_15 c_16 c_17 => ih b_11 b_12 b_13 μ_14 h_15 (by omega) (by omega) (by omega) (by omega) (by omega)) h (by omega) (by omega) (by omega) (by omega) (by omega) (by omega) (by omega)
theorem tX10_deliver {w : Bool} {L : Int32} {M : gM} {p0 : Nat} {a1 : Int32} {a2 : Int32} {μ : gM} (hp0 : sW p0) (h : J w L M μ) (g0 : 0 ≤ a1.toInt) (g1 : a1.toInt ≤ 4) : zH (fX10_deliver p0 a1 a2 μ) (fun ν => J w L M ν) := by
  unfold fX10_deliver
  have q_1 : (0 : Int32).toInt = (0 : Int) := (iL (0) (0) rfl)
  exact zH_mono (tX10_deliver_l2 hp0 100000 a1 a2 (0 : Int32) μ h (by omega) (by omega) (by omega) (by omega) (by omega)) (fun r_3 p_2 => p_2)
theorem tX10_step_l26 {w : Bool} {L : Int32} {M : gM} {p0 : Nat}  (hp0 : sW p0) : ∀ (n : Nat) (y3 : Int32) (μ : gM), J w L M μ → 0 ≤ y3.toInt → y3.toInt ≤ 5 → 5 - y3.toInt < (n : Int) → zH (fX10_step_l26 p0 n y3 μ) (fun r => J w L M r.2 ∧ (r.1.toInt = 1)) := by
  intro n
  induction n with
  | zero =>
    intro y3 μ  h g0 g1 gm
    exact absurd gm (by omega)
  | succ n ih =>
    intro y3 μ  h g0 g1 gm
    rw [fX10_step_l26]
    have f_2 : (-1 : Int) ≤ (μ (p0 + 14) 3).toInt ∧ (μ (p0 + 14) 3).toInt ≤ 4 := h.rd (a := (p0 + 14)) hp0.2 (hp0.1.2.1) 3
    refine zH_ltc (rfl : (μ (p0 + 14) 3).toInt = _) (rfl : y3.toInt = _) (fun c_1 => ?_) (fun c_1 => ?_)
    · refine zH_lt (fun μ_3 e_4 => ?_)
      have h_5 : J w L M μ_3 := by rw [e_4]; exact J.upf h (a := p0) (k := (0, 9)) (hp0.1.1 0 (by decide)) (fx34 (by have := hp0.1.2.2; omega) (by have := hp0.1.2.1; omega)) (by decide) (by decide) (Or.inl (by have := hp0.1.2.2; omega)) rfl
      have q_6 : (1 : Int32).toInt = (1 : Int) := (iL (1) (1) rfl)
      exact zH_some ⟨h_5, show (1 : Int32).toInt = 1 from by have q_7 : ((1 : Int32)).toInt = (1 : Int) := (iL (1) (1) rfl); omega⟩
    · refine zH_bp (tX10_send hp0 h (by omega) (by omega)) (fun x_8 μ_9 p_10 => ?_)
      have h_11 : J w L M μ_9 := p_10
      have q_12 : (1 : Int32).toInt = (1 : Int) := (iL (1) (1) rfl)
      refine zH_bd (tX10_wind hp0 h_11 (by omega) (by omega)) (fun μ_13 p_14 => ?_)
      have h_15 : J w L M μ_13 := p_14
      refine zH_bd (tX10_deliver hp0 h_15 (by omega) (by omega)) (fun μ_16 p_17 => ?_)
      have h_18 : J w L M μ_16 := p_17
      refine zH_bd (tX10_tally hp0 h_18 (by omega) (by omega)) (fun μ_19 p_20 => ?_)
      have h_21 : J w L M μ_19 := p_20
      refine zH_lt (fun x_22 e_23 => ?_)
      have q_24 : x_22.toInt = (y3.toInt + (1 : Int)) := (congrArg Int32.toInt e_23).trans (iA (rfl : y3.toInt = _) (iL (1) (1) rfl) (by omega) (by omega))
      exact zH_mono (ih x_22 μ_19 h_21 (by omega) (by omega) (by omega)) (fun r_26 p_25 => ⟨p_25.1, show (r_26.1).toInt = 1 from by have q_27 : (r_26.1).toInt = 1 := p_25.2; omega⟩)
theorem tX10_step {w : Bool} {L : Int32} {M : gM} {p0 : Nat} {a1 : Int32} {μ : gM} (hp0 : sW p0) (h : J w L M μ)  : zH (fX10_step p0 a1 μ) (fun r => J w L M r.2 ∧ (r.1.toInt ≤ a1.toInt ∨ r.1.toInt = 1)) := by
  unfold fX10_step
  refine zH_bd (tX10_quietTicks hp0 h) (fun x_1 p_2 => ?_)
  have q_3 : x_1.toInt ≤ a1.toInt := p_2
  refine zH_lec (rfl : x_1.toInt = _) (iL (0) (0) rfl) (fun c_4 => ?_) (fun c_4 => ?_)
  · refine zH_bd (tX10_happen hp0 h) (fun μ_5 p_6 => ?_)
    have h_7 : J w L M μ_5 := p_6
    have f_10 : (0 : Int) ≤ (μ_5 (p0 + 14) 2).toInt ∧ (μ_5 (p0 + 14) 2).toInt ≤ 4 := h_7.rd (a := (p0 + 14)) hp0.2 (hp0.1.2.1) 2
    refine zH_lt (fun x_8 e_9 => ?_)
    have q_11 : x_8.toInt = (μ_5 (p0 + 14) 2).toInt := (congrArg Int32.toInt e_9).trans (rfl : (μ_5 (p0 + 14) 2).toInt = _)
    exact zH_mono (tX10_step_l26 hp0 100000 x_8 μ_5 h_7 (by omega) (by omega) (by omega)) (fun r_13 p_12 => ⟨p_12.1, show (r_13.1).toInt ≤ a1.toInt ∨ (r_13.1).toInt = 1 from by have q_14 : r_13.1.toInt = 1 := p_12.2; omega⟩)
  · refine zH_bd (tX10_passQuietly hp0 h) (fun μ_15 p_16 => ?_)
    have h_17 : J w L M μ_15 := p_16
    exact zH_some ⟨h_17, show x_1.toInt ≤ a1.toInt ∨ x_1.toInt = 1 from by have q_18 : (x_1).toInt = x_1.toInt := (rfl : x_1.toInt = _); omega⟩
theorem tX10_run_l2 {w : Bool} {L : Int32} {M : gM} {p0 : Nat}  (hp0 : sW p0) : ∀ (n : Nat) (y1 : Int32) (y2 : Int32) (μ : gM), J w L M μ → y1.toInt ≤ 600 → 0 ≤ y2.toInt → y2.toInt ≤ 600 → 600 - y2.toInt < (n : Int) → zH (fX10_run_l2 p0 n y1 y2 μ) (fun ν => J w L M ν) := by
  intro n
  induction n with
  | zero =>
    intro y1 y2 μ  h g0 g1 g2 gm
    exact absurd gm (by omega)
  | succ n ih =>
    intro y1 y2 μ  h g0 g1 g2 gm
    rw [fX10_run_l2]
    refine zH_lec (rfl : y1.toInt = _) (rfl : y2.toInt = _) (fun c_1 => ?_) (fun c_1 => ?_)
    · exact zH_some h
    · have q_2 : (y1 - y2).toInt = (y1.toInt - y2.toInt) := (iS (rfl : y1.toInt = _) (rfl : y2.toInt = _) (by omega) (by omega))
      refine zH_bp (tX10_step hp0 h) (fun x_3 μ_4 p_5 => ?_)
      have h_6 : J w L M μ_4 := p_5.1
      have q_7 : x_3.toInt ≤ (y1 - y2).toInt ∨ x_3.toInt = 1 := p_5.2
      refine zH_lt (fun x_8 e_9 => ?_)
      have q_10 : x_8.toInt = (y2.toInt + (max x_3.toInt (1 : Int))) := (congrArg Int32.toInt e_9).trans (iA (rfl : y2.toInt = _) (iMx' (rfl : x_3.toInt = _) (iL (1) (1) rfl)) (by omega) (by omega))
      exact ih y1 x_8 μ_4 h_6 (by omega) (by omega) (by omega) (by omega)
theorem tX10_run {w : Bool} {L : Int32} {M : gM} {p0 : Nat} {a1 : Int32} {μ : gM} (hp0 : sW p0) (h : J w L M μ) (g0 : a1.toInt ≤ 600) : zH (fX10_run p0 a1 μ) (fun ν => J w L M ν) := by
  unfold fX10_run
  have q_1 : (0 : Int32).toInt = (0 : Int) := (iL (0) (0) rfl)
  exact zH_mono (tX10_run_l2 hp0 100000 a1 (0 : Int32) μ h (by omega) (by omega) (by omega) (by omega)) (fun r_3 p_2 => p_2)
theorem tX10_begin {w : Bool} {L : Int32} {M : gM} {p0 : Nat} {μ : gM} (hp0 : sW p0) (h : J w L M μ)  : zH (fX10_begin p0 μ) (fun ν => J w L M ν) := by
  unfold fX10_begin
  refine zH_bd (tX10_runAllGroups hp0 h) (fun μ_1 p_2 => ?_)
  have h_3 : J w L M μ_1 := p_2
  refine zH_bd (tX9_clear hp0.1 h_3) (fun μ_4 p_5 => ?_)
  have h_6 : J w L M μ_4 := p_5
  have q_7 : (0 : Int32).toInt = (0 : Int) := (iL (0) (0) rfl)
  refine zH_bd (tX10_setCuts hp0 h_6) (fun μ_8 p_9 => ?_)
  have h_10 : J w L M μ_8 := p_9
  have f_11 : (0 : Int) ≤ (μ_8 5 0).toInt ∧ (μ_8 5 0).toInt ≤ 6 := h_10.rd (a := 5) rfl (by decide) 0
  refine zH_bd (tX10_raise hp0 h_10) (fun μ_12 p_13 => ?_)
  have h_14 : J w L M μ_12 := p_13
  exact zH_some h_14
