theorem tX3_openAll {w : Bool} {L : Int32} {M : gM} {μ : gM}  (h : J w L M μ)  : zH (fX3_openAll μ) (fun ν => J w L M ν) := by
  unfold fX3_openAll
  refine zH_bd (tX9_copyFrom sS_249 sS_34 h) (fun μ_1 p_2 => ?_)
  have h_3 : J w L M μ_1 := p_2
  refine zH_bd (tX10_runAllGroups sW_249 h_3) (fun μ_4 p_5 => ?_)
  have h_6 : J w L M μ_4 := p_5
  exact zH_some h_6
theorem tX3_open {w : Bool} {L : Int32} {M : gM} {a1 : Int32} {μ : gM}  (h : J w L M μ) (g0 : 0 ≤ a1.toInt) (g1 : a1.toInt ≤ 4) : zH (fX3_open a1 μ) (fun ν => J w L M ν) := by
  unfold fX3_open
  refine zH_bd (tX9_copyFrom sS_249 sS_34 h) (fun μ_1 p_2 => ?_)
  have h_3 : J w L M μ_1 := p_2
  refine zH_eqc (rfl : (μ_1 34 4).toInt = _) (iL (0) (0) rfl) (fun c_4e c_4 => ?_) (fun c_4e c_4 => ?_)
  · refine zH_bd (tX10_runOneGroup sW_249 h_3 (by omega) (by omega)) (fun μ_5 p_6 => ?_)
    have h_7 : J w L M μ_5 := p_6
    exact zH_some h_7
  · refine zH_bd (tX10_runAllGroups sW_249 h_3) (fun μ_8 p_9 => ?_)
    have h_10 : J w L M μ_8 := p_9
    exact zH_some h_10
theorem tX3_heldIn {w : Bool} {L : Int32} {M : gM} {a1 : Int32} {a2 : Int32} {μ : gM}  (h : J w L M μ) (g0 : 0 ≤ a1.toInt) (g1 : a1.toInt ≤ 4) (g2 : a2.toInt ≤ 600) : zH (fX3_heldIn a1 a2 μ) (fun r => J w L M r.2) := by
  unfold fX3_heldIn
  refine zH_bd (tX3_open h (by omega) (by omega)) (fun μ_1 p_2 => ?_)
  have h_3 : J w L M μ_1 := p_2
  refine zH_bd (tX10_run sW_249 h_3 (by omega)) (fun μ_4 p_5 => ?_)
  have h_6 : J w L M μ_4 := p_5
  refine zH_ck (zIn (rfl : a1.toInt = _) (by omega) (by omega)) ?_
  exact zH_some h_6
theorem tX3_mostTicks {w : Bool} {L : Int32} {M : gM} {μ : gM}  (h : J w L M μ)  : zH (fX3_mostTicks μ) (fun v => v.toInt ≤ 500) := by
  unfold fX3_mostTicks
  have q_1 : (zMn (500 : Int32) ((9999 : Int32) - (μ 34 0))).toInt = (min (500 : Int) ((9999 : Int32) - (μ 34 0)).toInt) := (iMn' (iL (500) (500) rfl) (rfl : ((9999 : Int32) - (μ 34 0)).toInt = _))
  exact zH_some (show (zMn (500 : Int32) ((9999 : Int32) - (μ 34 0))).toInt ≤ 500 from by have q_2 : (zMn (500 : Int32) ((9999 : Int32) - (μ 34 0))).toInt = (min (500 : Int) ((9999 : Int32) - (μ 34 0)).toInt) := (iMn' (iL (500) (500) rfl) (rfl : ((9999 : Int32) - (μ 34 0)).toInt = _)); omega)
theorem tX3_otherHolder  {a1 : Int32} {a2 : Int32} {μ : gM}   (g0 : 0 ≤ a1.toInt) (g1 : a1.toInt ≤ 4) : zH (fX3_otherHolder a1 a2 μ) (fun v => (-1 : Int) ≤ v.toInt ∧ v.toInt ≤ 5) := by
  unfold fX3_otherHolder
  refine zH_ck (zIn (rfl : a1.toInt = _) (by omega) (by omega)) ?_
  refine zH_bd (tX9_beside) (fun x_1 p_2 => ?_)
  refine zH_bd (tX9_strongest (by omega) (by omega)) (fun x_3 p_4 => ?_)
  have q_5 : (-1 : Int) ≤ x_3.toInt ∧ x_3.toInt ≤ 5 := p_4
  exact zH_some (show (-1 : Int) ≤ x_3.toInt ∧ x_3.toInt ≤ 5 from by have q_6 : (x_3).toInt = x_3.toInt := (rfl : x_3.toInt = _); omega)
theorem tX3_takenBehind_l23 {w : Bool} {L : Int32} {M : gM}    : ∀ (n : Nat) (y1 : Int32) (y2 : Int32) (y3 : Int32) (y4 : Int32) (μ : gM), J w L M μ → 0 ≤ y1.toInt → y1.toInt ≤ 4 → y3.toInt ≤ 500 → 0 ≤ y4.toInt → y4.toInt ≤ 500 → 500 - y4.toInt < (n : Int) → zH (fX3_takenBehind_l23  n y1 y2 y3 y4 μ) (fun r => J w L M r.2) := by
  intro n
  induction n with
  | zero =>
    intro y1 y2 y3 y4 μ  h g0 g1 g2 g3 g4 gm
    exact absurd gm (by omega)
  | succ n ih =>
    intro y1 y2 y3 y4 μ  h g0 g1 g2 g3 g4 gm
    rw [fX3_takenBehind_l23]
    refine zH_lec (rfl : y3.toInt = _) (rfl : y4.toInt = _) (fun c_1 => ?_) (fun c_1 => ?_)
    · unfold fX3_takenBehind_n62
      refine zH_bd (tX3_otherHolder (by omega) (by omega)) (fun x_2 p_3 => ?_)
      have q_4 : (-1 : Int) ≤ x_2.toInt ∧ x_2.toInt ≤ 5 := p_3
      refine zH_eqc (rfl : x_2.toInt = _) (iL (-1) (-1) rfl) (fun c_5e c_5 => ?_) (fun c_5e c_5 => ?_)
      · exact zH_some h
      · exact zH_some h
    · refine zH_bd (tX3_otherHolder (by omega) (by omega)) (fun x_6 p_7 => ?_)
      have q_8 : (-1 : Int) ≤ x_6.toInt ∧ x_6.toInt ≤ 5 := p_7
      refine zH_eqc (rfl : x_6.toInt = _) (iL (-1) (-1) rfl) (fun c_9e c_9 => ?_) (fun c_9e c_9 => ?_)
      · have q_10 : (y3 - y4).toInt = (y3.toInt - y4.toInt) := (iS (rfl : y3.toInt = _) (rfl : y4.toInt = _) (by omega) (by omega))
        refine zH_bp (tX10_step sW_249 h) (fun x_11 μ_12 p_13 => ?_)
        have h_14 : J w L M μ_12 := p_13.1
        have q_15 : x_11.toInt ≤ (y3 - y4).toInt ∨ x_11.toInt = 1 := p_13.2
        refine zH_lt (fun x_16 e_17 => ?_)
        have q_18 : x_16.toInt = (y4.toInt + (max x_11.toInt (1 : Int))) := (congrArg Int32.toInt e_17).trans (iA (rfl : y4.toInt = _) (iMx' (rfl : x_11.toInt = _) (iL (1) (1) rfl)) (by omega) (by omega))
        exact ih y1 y2 y3 x_16 μ_12 h_14 (by omega) (by omega) (by omega) (by omega) (by omega) (by omega)
      · unfold fX3_takenBehind_n62
        refine zH_bd (tX3_otherHolder (by omega) (by omega)) (fun x_19 p_20 => ?_)
        have q_21 : (-1 : Int) ≤ x_19.toInt ∧ x_19.toInt ≤ 5 := p_20
        refine zH_eqc (rfl : x_19.toInt = _) (iL (-1) (-1) rfl) (fun c_22e c_22 => ?_) (fun c_22e c_22 => ?_)
        · exact zH_some h
        · exact zH_some h
theorem tX3_takenBehind {w : Bool} {L : Int32} {M : gM} {a1 : Int32} {a2 : Int32} {μ : gM}  (h : J w L M μ) (g0 : 0 ≤ a1.toInt) (g1 : a1.toInt ≤ 4) (g2 : 0 ≤ a2.toInt) (g3 : a2.toInt ≤ 5) : zH (fX3_takenBehind a1 a2 μ) (fun r => J w L M r.2) := by
  unfold fX3_takenBehind
  refine zH_bd (tX3_open h (by omega) (by omega)) (fun μ_1 p_2 => ?_)
  have h_3 : J w L M μ_1 := p_2
  have q_4 : (0 : Int32).toInt = (0 : Int) := (iL (0) (0) rfl)
  refine zH_bp (tX10_lower sW_249 h_3 (by omega) (by omega)) (fun x_5 μ_6 p_7 => ?_)
  have h_8 : J w L M μ_6 := p_7
  refine zH_bd (tX3_mostTicks h_8) (fun x_9 p_10 => ?_)
  have q_11 : x_9.toInt ≤ 500 := p_10
  exact zH_mono (tX3_takenBehind_l23 100000 a1 a2 x_9 (0 : Int32) μ_6 h_8 (by omega) (by omega) (by omega) (by omega) (by omega) (by omega)) (fun r_13 p_12 => p_12)
theorem tX3_calmFrom_l8 {w : Bool} {L : Int32} {M : gM}    : ∀ (n : Nat) (y1 : Int32) (y2 : Int32) (μ : gM), J w L M μ → 0 ≤ y2.toInt → y2.toInt ≤ 600 → 600 - y2.toInt < (n : Int) → zH (fX3_calmFrom_l8  n y1 y2 μ) (fun r => J w L M r.2) := by
  intro n
  induction n with
  | zero =>
    intro y1 y2 μ  h g0 g1 gm
    exact absurd gm (by omega)
  | succ n ih =>
    intro y1 y2 μ  h g0 g1 gm
    rw [fX3_calmFrom_l8]
    refine zH_lec (iL (600) (600) rfl) (rfl : y2.toInt = _) (fun c_1 => ?_) (fun c_1 => ?_)
    · unfold fX3_calmFrom_n77
      refine zH_ltc (iL (500) (500) rfl) (rfl : y1.toInt = _) (fun c_2 => ?_) (fun c_2 => ?_)
      · exact zH_some h
      · exact zH_some h
    · refine zH_ltc (iL (500) (500) rfl) (rfl : y1.toInt = _) (fun c_3 => ?_) (fun c_3 => ?_)
      · unfold fX3_calmFrom_n77
        refine zH_ltc (iL (500) (500) rfl) (rfl : y1.toInt = _) (fun c_4 => ?_) (fun c_4 => ?_)
        · exact zH_some h
        · exact zH_some h
      · refine zH_lec (iL (100) (100) rfl) (rfl : (y2 - y1).toInt = _) (fun c_5 => ?_) (fun c_5 => ?_)
        · unfold fX3_calmFrom_n77
          refine zH_ltc (iL (500) (500) rfl) (rfl : y1.toInt = _) (fun c_6 => ?_) (fun c_6 => ?_)
          · exact zH_some h
          · exact zH_some h
        · refine zH_lt (fun x_7 e_8 => ?_)
          have q_9 : ((600 : Int32) - y2).toInt = ((600 : Int) - y2.toInt) := (iS (iL (600) (600) rfl) (rfl : y2.toInt = _) (by omega) (by omega))
          refine zH_bp (tX10_step sW_249 h) (fun x_10 μ_11 p_12 => ?_)
          have h_13 : J w L M μ_11 := p_12.1
          have q_14 : x_10.toInt ≤ ((600 : Int32) - y2).toInt ∨ x_10.toInt = 1 := p_12.2
          refine zH_lt (fun x_15 e_16 => ?_)
          have q_17 : x_15.toInt = (y2.toInt + (max x_10.toInt (1 : Int))) := (congrArg Int32.toInt e_16).trans (iA (rfl : y2.toInt = _) (iMx' (rfl : x_10.toInt = _) (iL (1) (1) rfl)) (by omega) (by omega))
          refine zH_eqc (rfl : (μ_11 263 4).toInt = _) (rfl : x_7.toInt = _) (fun c_18e c_18 => ?_) (fun c_18e c_18 => ?_)
          · exact ih y1 x_15 μ_11 h_13 (by omega) (by omega) (by omega)
          · exact ih x_15 x_15 μ_11 h_13 (by omega) (by omega) (by omega)
theorem tX3_calmFrom {w : Bool} {L : Int32} {M : gM} {μ : gM}  (h : J w L M μ)  : zH (fX3_calmFrom μ) (fun r => J w L M r.2) := by
  unfold fX3_calmFrom
  refine zH_bd (tX3_openAll h) (fun μ_1 p_2 => ?_)
  have h_3 : J w L M μ_1 := p_2
  have q_4 : (0 : Int32).toInt = (0 : Int) := (iL (0) (0) rfl)
  exact zH_mono (tX3_calmFrom_l8 100000 (0 : Int32) (0 : Int32) μ_1 h_3 (by omega) (by omega) (by omega)) (fun r_6 p_5 => p_5)
theorem tX3_leastWord_l2 {w : Bool} {L : Int32} {M : gM}    : ∀ (n : Nat) (y1 : Int32) (y2 : Int32) (y3 : Int32) (μ : gM), J w L M μ → 0 ≤ y1.toInt → y1.toInt ≤ 4 → 0 ≤ y3.toInt → y3.toInt ≤ 255 → 255 - y3.toInt < (n : Int) → zH (fX3_leastWord_l2  n y1 y2 y3 μ) (fun r => J w L M r.2) := by
  intro n
  induction n with
  | zero =>
    intro y1 y2 y3 μ  h g0 g1 g2 g3 gm
    exact absurd gm (by omega)
  | succ n ih =>
    intro y1 y2 y3 μ  h g0 g1 g2 g3 gm
    rw [fX3_leastWord_l2]
    refine zH_ltc (iL (254) (254) rfl) (rfl : y3.toInt = _) (fun c_1 => ?_) (fun c_1 => ?_)
    · exact zH_some h
    · refine zH_bd (tX3_open h (by omega) (by omega)) (fun μ_2 p_3 => ?_)
      have h_4 : J w L M μ_2 := p_3
      refine zH_bd (tX10_tell sW_249 h_4) (fun μ_5 p_6 => ?_)
      have h_7 : J w L M μ_5 := p_6
      have q_8 : (300 : Int32).toInt = (300 : Int) := (iL (300) (300) rfl)
      refine zH_bd (tX10_run sW_249 h_7 (by omega)) (fun μ_9 p_10 => ?_)
      have h_11 : J w L M μ_9 := p_10
      refine zH_bd (tX9_isHeld (by omega) (by omega)) (fun x_12 p_13 => ?_)
      have q_14 : x_12.toInt = 0 ∨ x_12.toInt = 1 := p_13
      refine zH_eqc (rfl : x_12.toInt = _) (iL (0) (0) rfl) (fun c_15e c_15 => ?_) (fun c_15e c_15 => ?_)
      · refine zH_lt (fun x_16 e_17 => ?_)
        have q_18 : x_16.toInt = (y3.toInt + (1 : Int)) := (congrArg Int32.toInt e_17).trans (iA (rfl : y3.toInt = _) (iL (1) (1) rfl) (by omega) (by omega))
        exact ih y1 y2 x_16 μ_9 h_11 (by omega) (by omega) (by omega) (by omega) (by omega)
      · exact zH_some h_11
theorem tX3_leastWord {w : Bool} {L : Int32} {M : gM} {a1 : Int32} {a2 : Int32} {μ : gM}  (h : J w L M μ) (g0 : 0 ≤ a1.toInt) (g1 : a1.toInt ≤ 4) : zH (fX3_leastWord a1 a2 μ) (fun r => J w L M r.2) := by
  unfold fX3_leastWord
  have q_1 : (1 : Int32).toInt = (1 : Int) := (iL (1) (1) rfl)
  exact zH_mono (tX3_leastWord_l2 100000 a1 a2 (1 : Int32) μ h (by omega) (by omega) (by omega) (by omega) (by omega)) (fun r_3 p_2 => p_2)
theorem tX3_takesIn {w : Bool} {L : Int32} {M : gM} {a1 : Int32} {a2 : Int32} {μ : gM}  (h : J w L M μ) (g0 : 0 ≤ a1.toInt) (g1 : a1.toInt ≤ 4) (g2 : a2.toInt ≤ 600) : zH (fX3_takesIn a1 a2 μ) (fun r => J w L M r.2) := by
  unfold fX3_takesIn
  refine zH_bd (tX3_open h (by omega) (by omega)) (fun μ_1 p_2 => ?_)
  have h_3 : J w L M μ_1 := p_2
  refine zH_bd (tX10_run sW_249 h_3 (by omega)) (fun μ_4 p_5 => ?_)
  have h_6 : J w L M μ_4 := p_5
  refine zH_ck (zIn (rfl : a1.toInt = _) (by omega) (by omega)) ?_
  refine zH_ck (zIn (rfl : a1.toInt = _) (by omega) (by omega)) ?_
  exact zH_some h_6
theorem tX3_holderWithCuts {w : Bool} {L : Int32} {M : gM} {a1 : Int32} {a2 : Int32} {a3 : Int32} {μ : gM}  (h : J w L M μ) (g0 : 0 ≤ a1.toInt) (g1 : a1.toInt ≤ 4) : zH (fX3_holderWithCuts a1 a2 a3 μ) (fun r => J w L M r.2) := by
  unfold fX3_holderWithCuts
  refine zH_bd (tX3_open h (by omega) (by omega)) (fun μ_1 p_2 => ?_)
  have h_3 : J w L M μ_1 := p_2
  refine zH_bd (tX10_setCuts sW_249 h_3) (fun μ_4 p_5 => ?_)
  have h_6 : J w L M μ_4 := p_5
  have q_7 : (300 : Int32).toInt = (300 : Int) := (iL (300) (300) rfl)
  refine zH_bd (tX10_run sW_249 h_6 (by omega)) (fun μ_8 p_9 => ?_)
  have h_10 : J w L M μ_8 := p_9
  refine zH_bd (tX9_holderBeside (by omega) (by omega)) (fun x_11 p_12 => ?_)
  have q_13 : (-1 : Int) ≤ x_11.toInt ∧ x_11.toInt ≤ 5 := p_12
  exact zH_some h_10
theorem tX3_sentIn {w : Bool} {L : Int32} {M : gM} {a1 : Int32} {μ : gM}  (h : J w L M μ) (g0 : a1.toInt ≤ 600) : zH (fX3_sentIn a1 μ) (fun r => J w L M r.2) := by
  unfold fX3_sentIn
  refine zH_bd (tX3_openAll h) (fun μ_1 p_2 => ?_)
  have h_3 : J w L M μ_1 := p_2
  refine zH_bd (tX10_run sW_249 h_3 (by omega)) (fun μ_4 p_5 => ?_)
  have h_6 : J w L M μ_4 := p_5
  exact zH_some h_6
theorem tX3_ticksHeld_l11 {w : Bool} {L : Int32} {M : gM}    : ∀ (n : Nat) (y1 : Int32) (y2 : Int32) (y3 : Int32) (y4 : Int32) (y5 : Int32) (μ : gM), J w L M μ → 0 ≤ y1.toInt → y1.toInt ≤ 4 → y3.toInt ≤ 600 → 0 ≤ y5.toInt → y5.toInt ≤ 600 → 600 - y5.toInt < (n : Int) → zH (fX3_ticksHeld_l11  n y1 y2 y3 y4 y5 μ) (fun r => J w L M r.2) := by
  intro n
  induction n with
  | zero =>
    intro y1 y2 y3 y4 y5 μ  h g0 g1 g2 g3 g4 gm
    exact absurd gm (by omega)
  | succ n ih =>
    intro y1 y2 y3 y4 y5 μ  h g0 g1 g2 g3 g4 gm
    rw [fX3_ticksHeld_l11]
    refine zH_lec (rfl : y3.toInt = _) (rfl : y5.toInt = _) (fun c_1 => ?_) (fun c_1 => ?_)
    · exact zH_some h
    · have q_2 : (y3 - y5).toInt = (y3.toInt - y5.toInt) := (iS (rfl : y3.toInt = _) (rfl : y5.toInt = _) (by omega) (by omega))
      refine zH_bp (tX10_step sW_249 h) (fun x_3 μ_4 p_5 => ?_)
      have h_6 : J w L M μ_4 := p_5.1
      have q_7 : x_3.toInt ≤ (y3 - y5).toInt ∨ x_3.toInt = 1 := p_5.2
      refine zH_lt (fun x_8 e_9 => ?_)
      have q_10 : x_8.toInt = (max x_3.toInt (1 : Int)) := (congrArg Int32.toInt e_9).trans (iMx' (rfl : x_3.toInt = _) (iL (1) (1) rfl))
      refine zH_lt (fun x_11 e_12 => ?_)
      have q_13 : x_11.toInt = (y5.toInt + x_8.toInt) := (congrArg Int32.toInt e_12).trans (iA (rfl : y5.toInt = _) (rfl : x_8.toInt = _) (by omega) (by omega))
      refine zH_bd (tX9_isHeld (by omega) (by omega)) (fun x_14 p_15 => ?_)
      have q_16 : x_14.toInt = 0 ∨ x_14.toInt = 1 := p_15
      refine zH_eqc (rfl : x_14.toInt = _) (iL (0) (0) rfl) (fun c_17e c_17 => ?_) (fun c_17e c_17 => ?_)
      · refine zH_lt (fun x_18 e_19 => ?_)
        exact ih y1 y2 y3 x_18 x_11 μ_4 h_6 (by omega) (by omega) (by omega) (by omega) (by omega) (by omega)
      · refine zH_lt (fun x_20 e_21 => ?_)
        exact ih y1 y2 y3 x_20 x_11 μ_4 h_6 (by omega) (by omega) (by omega) (by omega) (by omega) (by omega)
theorem tX3_ticksHeld {w : Bool} {L : Int32} {M : gM} {a1 : Int32} {a2 : Int32} {a3 : Int32} {μ : gM}  (h : J w L M μ) (g0 : 0 ≤ a1.toInt) (g1 : a1.toInt ≤ 4) (g2 : a3.toInt ≤ 600) : zH (fX3_ticksHeld a1 a2 a3 μ) (fun r => J w L M r.2) := by
  unfold fX3_ticksHeld
  refine zH_bd (tX3_open h (by omega) (by omega)) (fun μ_1 p_2 => ?_)
  have h_3 : J w L M μ_1 := p_2
  have q_4 : (0 : Int32).toInt = (0 : Int) := (iL (0) (0) rfl)
  exact zH_mono (tX3_ticksHeld_l11 100000 a1 a2 a3 (0 : Int32) (0 : Int32) μ_1 h_3 (by omega) (by omega) (by omega) (by omega) (by omega) (by omega)) (fun r_6 p_5 => p_5)
theorem tX3_regainedBehind_l23 {w : Bool} {L : Int32} {M : gM}    : ∀ (n : Nat) (y1 : Int32) (y2 : Int32) (y3 : Int32) (y4 : Int32) (μ : gM), J w L M μ → 0 ≤ y1.toInt → y1.toInt ≤ 4 → y3.toInt ≤ 500 → 0 ≤ y4.toInt → y4.toInt ≤ 500 → 500 - y4.toInt < (n : Int) → zH (fX3_regainedBehind_l23  n y1 y2 y3 y4 μ) (fun r => J w L M r.2) := by
  intro n
  induction n with
  | zero =>
    intro y1 y2 y3 y4 μ  h g0 g1 g2 g3 g4 gm
    exact absurd gm (by omega)
  | succ n ih =>
    intro y1 y2 y3 y4 μ  h g0 g1 g2 g3 g4 gm
    rw [fX3_regainedBehind_l23]
    refine zH_lec (rfl : y3.toInt = _) (rfl : y4.toInt = _) (fun c_1 => ?_) (fun c_1 => ?_)
    · unfold fX3_regainedBehind_n64
      refine zH_bd (tX9_isHeld (by omega) (by omega)) (fun x_2 p_3 => ?_)
      have q_4 : x_2.toInt = 0 ∨ x_2.toInt = 1 := p_3
      refine zH_eqc (rfl : x_2.toInt = _) (iL (0) (0) rfl) (fun c_5e c_5 => ?_) (fun c_5e c_5 => ?_)
      · exact zH_some h
      · exact zH_some h
    · refine zH_bd (tX9_isHeld (by omega) (by omega)) (fun x_6 p_7 => ?_)
      have q_8 : x_6.toInt = 0 ∨ x_6.toInt = 1 := p_7
      refine zH_eqc (rfl : x_6.toInt = _) (iL (0) (0) rfl) (fun c_9e c_9 => ?_) (fun c_9e c_9 => ?_)
      · have q_10 : (y3 - y4).toInt = (y3.toInt - y4.toInt) := (iS (rfl : y3.toInt = _) (rfl : y4.toInt = _) (by omega) (by omega))
        refine zH_bp (tX10_step sW_249 h) (fun x_11 μ_12 p_13 => ?_)
        have h_14 : J w L M μ_12 := p_13.1
        have q_15 : x_11.toInt ≤ (y3 - y4).toInt ∨ x_11.toInt = 1 := p_13.2
        refine zH_lt (fun x_16 e_17 => ?_)
        have q_18 : x_16.toInt = (y4.toInt + (max x_11.toInt (1 : Int))) := (congrArg Int32.toInt e_17).trans (iA (rfl : y4.toInt = _) (iMx' (rfl : x_11.toInt = _) (iL (1) (1) rfl)) (by omega) (by omega))
        exact ih y1 y2 y3 x_16 μ_12 h_14 (by omega) (by omega) (by omega) (by omega) (by omega) (by omega)
      · unfold fX3_regainedBehind_n64
        refine zH_bd (tX9_isHeld (by omega) (by omega)) (fun x_19 p_20 => ?_)
        have q_21 : x_19.toInt = 0 ∨ x_19.toInt = 1 := p_20
        refine zH_eqc (rfl : x_19.toInt = _) (iL (0) (0) rfl) (fun c_22e c_22 => ?_) (fun c_22e c_22 => ?_)
        · exact zH_some h
        · exact zH_some h
theorem tX3_regainedBehind {w : Bool} {L : Int32} {M : gM} {a1 : Int32} {a2 : Int32} {μ : gM}  (h : J w L M μ) (g0 : 0 ≤ a1.toInt) (g1 : a1.toInt ≤ 4) : zH (fX3_regainedBehind a1 a2 μ) (fun r => J w L M r.2) := by
  unfold fX3_regainedBehind
  refine zH_bd (tX3_open h (by omega) (by omega)) (fun μ_1 p_2 => ?_)
  have h_3 : J w L M μ_1 := p_2
  refine zH_bd (tX10_raise sW_249 h_3) (fun μ_4 p_5 => ?_)
  have h_6 : J w L M μ_4 := p_5
  refine zH_bd (tX3_mostTicks h_6) (fun x_7 p_8 => ?_)
  have q_9 : x_7.toInt ≤ 500 := p_8
  have q_10 : (0 : Int32).toInt = (0 : Int) := (iL (0) (0) rfl)
  exact zH_mono (tX3_regainedBehind_l23 100000 a1 a2 x_7 (0 : Int32) μ_4 h_6 (by omega) (by omega) (by omega) (by omega) (by omega) (by omega)) (fun r_12 p_11 => p_11)
