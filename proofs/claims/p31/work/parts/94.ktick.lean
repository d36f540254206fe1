theorem tX12_letter_l69 {T : Int32} {C : gM}    : ∀ (n : Nat) (y3 : Int32) (y4 : Int32) (y5 : Int32) (μ : gM), K T C μ → 0 ≤ y5.toInt → y5.toInt ≤ 6 → 6 - y5.toInt < (n : Int) → zH (fX12_letter_l69  n y3 y4 y5 μ) (fun r => K T C r.2) := by
  intro n
  induction n with
  | zero =>
    intro y3 y4 y5 μ  h g0 g1 gm
    exact absurd gm (by omega)
  | succ n ih =>
    intro y3 y4 y5 μ  h g0 g1 gm
    rw [fX12_letter_l69]
    refine zH_lec (iL (6) (6) rfl) (rfl : y5.toInt = _) (fun c_1 => ?_) (fun c_1 => ?_)
    · unfold fX12_letter_n92
      refine zH_lec (rfl : y5.toInt = _) (rfl : y3.toInt = _) (fun c_2 => ?_) (fun c_2 => ?_)
      · exact zH_some h
      · exact zH_some h
    · refine zH_lec (rfl : (y4 >>> (((5 : Int32) * y5) &&& 31)).toInt = _) (iL (0) (0) rfl) (fun c_3 => ?_) (fun c_3 => ?_)
      · unfold fX12_letter_n92
        refine zH_lec (rfl : y5.toInt = _) (rfl : y3.toInt = _) (fun c_4 => ?_) (fun c_4 => ?_)
        · exact zH_some h
        · exact zH_some h
      · refine zH_lt (fun x_5 e_6 => ?_)
        have q_7 : x_5.toInt = (y5.toInt + (1 : Int)) := (congrArg Int32.toInt e_6).trans (iA (rfl : y5.toInt = _) (iL (1) (1) rfl) (by omega) (by omega))
        exact ih y3 y4 x_5 μ h (by omega) (by omega) (by omega)
theorem tX12_tickGoes_l78 {T : Int32} {C : gM}    : ∀ (n : Nat) (y1 : Int32) (μ : gM), K T C μ → 0 ≤ y1.toInt → y1.toInt ≤ 5 → 5 - y1.toInt < (n : Int) → zH (fX12_tickGoes_l78  n y1 μ) (fun ν => K T C ν) := by
  intro n
  induction n with
  | zero =>
    intro y1 μ  h g0 g1 gm
    exact absurd gm (by omega)
  | succ n ih =>
    intro y1 μ  h g0 g1 gm
    rw [fX12_tickGoes_l78]
    refine zH_bd (tX12_groups h) (fun x_1 p_2 => ?_)
    have q_3 : 0 ≤ x_1.toInt ∧ x_1.toInt ≤ 5 ∧ x_1.toInt = (μ 269 2).toInt := p_2
    have f_4 : 0 ≤ (μ 269 2).toInt ∧ (μ 269 2).toInt ≤ 5 := h.2.2.2.1.2.2.1
    refine zH_lec (rfl : x_1.toInt = _) (rfl : y1.toInt = _) (fun c_5 => ?_) (fun c_5 => ?_)
    · exact zH_some h
    · refine zH_lt (fun x_6 e_7 => ?_)
      have q_8 : x_6.toInt = ((130 : Int) + y1.toInt) := (congrArg Int32.toInt e_7).trans (iA (iL (130) (130) rfl) (rfl : y1.toInt = _) (by omega) (by omega))
      refine zH_ck (zIn (rfl : x_6.toInt = _) (by omega) (by omega)) ?_
      refine zH_bd (tX12_isOrphan h (by omega) (by omega)) (fun x_9 p_10 => ?_)
      have q_11 : x_9.toInt = 0 ∨ x_9.toInt = 1 := p_10
      refine zH_bd (tX12_flag) (fun x_12 p_13 => ?_)
      have q_14 : x_12.toInt = 0 ∨ x_12.toInt = 1 := p_13
      refine zH_ck (zIn (rfl : x_6.toInt = _) (by omega) (by omega)) ?_
      refine zH_lt (fun μ_15 e_16 => ?_)
      have h_17 : K T C μ_15 := by rw [e_16]; exact K.uw h (by have q_18 := zCl (rfl : x_6.toInt = _) (by omega); omega)
      refine zH_lt (fun x_19 e_20 => ?_)
      have q_21 : x_19.toInt = ((135 : Int) + y1.toInt) := (congrArg Int32.toInt e_20).trans (iA (iL (135) (135) rfl) (rfl : y1.toInt = _) (by omega) (by omega))
      refine zH_ck (zIn (rfl : x_19.toInt = _) (by omega) (by omega)) ?_
      refine zH_bd (tX12_isDouble h_17 (by omega) (by omega)) (fun x_22 p_23 => ?_)
      have q_24 : x_22.toInt = 0 ∨ x_22.toInt = 1 := p_23
      refine zH_bd (tX12_flag) (fun x_25 p_26 => ?_)
      have q_27 : x_25.toInt = 0 ∨ x_25.toInt = 1 := p_26
      refine zH_ck (zIn (rfl : x_19.toInt = _) (by omega) (by omega)) ?_
      refine zH_lt (fun μ_28 e_29 => ?_)
      have h_30 : K T C μ_28 := by rw [e_29]; exact K.uw h_17 (by have q_31 := zCl (rfl : x_19.toInt = _) (by omega); omega)
      refine zH_lt (fun x_32 e_33 => ?_)
      have q_34 : x_32.toInt = (y1.toInt + (1 : Int)) := (congrArg Int32.toInt e_33).trans (iA (rfl : y1.toInt = _) (iL (1) (1) rfl) (by omega) (by omega))
      exact ih x_32 μ_28 h_30 (by omega) (by omega) (by omega)
theorem tX12_tickGoes_l47 {T : Int32} {C : gM}    : ∀ (n : Nat) (y1 : Int32) (μ : gM), K T C μ → 0 ≤ y1.toInt → y1.toInt ≤ 5 → 5 - y1.toInt < (n : Int) → zH (fX12_tickGoes_l47  n y1 μ) (fun ν => K T C ν) := by
  intro n
  induction n with
  | zero =>
    intro y1 μ  h g0 g1 gm
    exact absurd gm (by omega)
  | succ n ih =>
    intro y1 μ  h g0 g1 gm
    rw [fX12_tickGoes_l47]
    refine zH_bd (tX12_groups h) (fun x_1 p_2 => ?_)
    have q_3 : 0 ≤ x_1.toInt ∧ x_1.toInt ≤ 5 ∧ x_1.toInt = (μ 269 2).toInt := p_2
    have f_4 : 0 ≤ (μ 269 2).toInt ∧ (μ 269 2).toInt ≤ 5 := h.2.2.2.1.2.2.1
    refine zH_lec (rfl : x_1.toInt = _) (rfl : y1.toInt = _) (fun c_5 => ?_) (fun c_5 => ?_)
    · refine zH_lt (fun μ_6 e_7 => ?_)
      have h_8 : K T C μ_6 := by rw [e_7]; exact K.uw h (by decide)
      have q_9 : (0 : Int32).toInt = (0 : Int) := (iL (0) (0) rfl)
      exact zH_mono (tX12_tickGoes_l78 100000 (0 : Int32) μ_6 h_8 (by omega) (by omega) (by omega)) (fun r_11 p_10 => p_10)
    · refine zH_bd (tX12_groupGoes h (by omega) (by omega)) (fun μ_12 p_13 => ?_)
      have h_14 : K T C μ_12 := p_13
      refine zH_lt (fun x_15 e_16 => ?_)
      have q_17 : x_15.toInt = (y1.toInt + (1 : Int)) := (congrArg Int32.toInt e_16).trans (iA (rfl : y1.toInt = _) (iL (1) (1) rfl) (by omega) (by omega))
      exact ih x_15 μ_12 h_14 (by omega) (by omega) (by omega)
theorem tX12_tickGoes_l2 {T : Int32} {C : gM}    : ∀ (n : Nat) (y1 : Int32) (μ : gM), K T C μ → 0 ≤ y1.toInt → y1.toInt ≤ 20 → 20 - y1.toInt < (n : Int) → zH (fX12_tickGoes_l2  n y1 μ) (fun ν => K T C ν) := by
  intro n
  induction n with
  | zero =>
    intro y1 μ  h g0 g1 gm
    exact absurd gm (by omega)
  | succ n ih =>
    intro y1 μ  h g0 g1 gm
    rw [fX12_tickGoes_l2]
    have f_2 : 0 ≤ (μ 272 8).toInt ∧ (μ 272 8).toInt ≤ 20 := h.2.2.2.2.2.2.1.2.1
    refine zH_lec (rfl : (μ 272 8).toInt = _) (rfl : y1.toInt = _) (fun c_1 => ?_) (fun c_1 => ?_)
    · have q_3 : (0 : Int32).toInt = (0 : Int) := (iL (0) (0) rfl)
      exact zH_mono (tX12_tickGoes_l47 100000 (0 : Int32) μ h (by omega) (by omega) (by omega)) (fun r_5 p_4 => p_4)
    · refine zH_ck (zIn (iA (iL (145) (145) rfl) (iM (iL (5) (5) rfl) (rfl : y1.toInt = _) (by omega) (by omega)) (by omega) (by omega)) (by omega) (by omega)) ?_
      refine zH_eqc (rfl : (μ 272 (((145 : Int32) + ((5 : Int32) * y1))).toNatClampNeg).toInt = _) (rfl : (μ 272 0).toInt = _) (fun c_6e c_6 => ?_) (fun c_6e c_6 => ?_)
      · refine zH_bd (tX12_happens h (by omega) (by omega)) (fun μ_7 p_8 => ?_)
        have h_9 : K T C μ_7 := p_8
        refine zH_lt (fun x_10 e_11 => ?_)
        have q_12 : x_10.toInt = (y1.toInt + (1 : Int)) := (congrArg Int32.toInt e_11).trans (iA (rfl : y1.toInt = _) (iL (1) (1) rfl) (by omega) (by omega))
        exact ih x_10 μ_7 h_9 (by omega) (by omega) (by omega)
      · refine zH_lt (fun x_13 e_14 => ?_)
        have q_15 : x_13.toInt = (y1.toInt + (1 : Int)) := (congrArg Int32.toInt e_14).trans (iA (rfl : y1.toInt = _) (iL (1) (1) rfl) (by omega) (by omega))
        exact ih x_13 μ h (by omega) (by omega) (by omega)
theorem tX12_tickGoes {T : Int32} {C : gM} {μ : gM}  (h : K T C μ)  : zH (fX12_tickGoes μ) (fun ν => K T C ν) := by
  unfold fX12_tickGoes
  have q_1 : (0 : Int32).toInt = (0 : Int) := (iL (0) (0) rfl)
  exact zH_mono (tX12_tickGoes_l2 100000 (0 : Int32) μ h (by omega) (by omega) (by omega)) (fun r_3 p_2 => p_2)
theorem tX12_memberMany_l4 {T : Int32} {C : gM}    : ∀ (n : Nat) (y1 : Int32) (y2 : Int32) (μ : gM), K T C μ → 0 ≤ y2.toInt → y2.toInt ≤ 5 → 5 - y2.toInt < (n : Int) → zH (fX12_memberMany_l4  n y1 y2 μ) (fun _ => True) := by
  intro n
  induction n with
  | zero =>
    intro y1 y2 μ  h g0 g1 gm
    exact absurd gm (by omega)
  | succ n ih =>
    intro y1 y2 μ  h g0 g1 gm
    rw [fX12_memberMany_l4]
    refine zH_bd (tX12_groups h) (fun x_1 p_2 => ?_)
    have q_3 : 0 ≤ x_1.toInt ∧ x_1.toInt ≤ 5 ∧ x_1.toInt = (μ 269 2).toInt := p_2
    have f_4 : 0 ≤ (μ 269 2).toInt ∧ (μ 269 2).toInt ≤ 5 := h.2.2.2.1.2.2.1
    refine zH_lec (rfl : x_1.toInt = _) (rfl : y2.toInt = _) (fun c_5 => ?_) (fun c_5 => ?_)
    · exact zH_some trivial
    · refine zH_ck (zIn (iA (iL (48) (48) rfl) (rfl : y2.toInt = _) (by omega) (by omega)) (by omega) (by omega)) ?_
      refine zH_bd (tX12_bits (h.m48 (iA (iL (48) (48) rfl) (rfl : y2.toInt = _) (by omega) (by omega)) (by omega) (by omega)).1 (h.m48 (iA (iL (48) (48) rfl) (rfl : y2.toInt = _) (by omega) (by omega)) (by omega) (by omega)).2) (fun x_6 p_7 => ?_)
      refine zH_lt (fun x_8 e_9 => ?_)
      refine zH_lt (fun x_10 e_11 => ?_)
      have q_12 : x_10.toInt = (y2.toInt + (1 : Int)) := (congrArg Int32.toInt e_11).trans (iA (rfl : y2.toInt = _) (iL (1) (1) rfl) (by omega) (by omega))
      exact ih x_8 x_10 μ h (by omega) (by omega) (by omega)
theorem tX12_memberMany {T : Int32} {C : gM} {μ : gM}  (h : K T C μ)  : zH (fX12_memberMany μ) (fun _ => True) := by
  unfold fX12_memberMany
  have q_1 : (0 : Int32).toInt = (0 : Int) := (iL (0) (0) rfl)
  exact zH_mono (tX12_memberMany_l4 100000 (0 : Int32) (0 : Int32) μ h (by omega) (by omega) (by omega)) (fun _ _ => trivial)
theorem tX12_partOf {T : Int32} {C : gM} {a1 : Int32} {μ : gM}  (h : K T C μ)  : zH (fX12_partOf a1 μ) (fun _ => True) := by
  unfold fX12_partOf
  refine zH_bd (tX12_gates h) (fun x_1 p_2 => ?_)
  have q_3 : 0 ≤ x_1.toInt ∧ x_1.toInt ≤ 6 := p_2
  refine zH_lt (fun x_4 e_5 => ?_)
  refine zH_bd (tX12_isOf) (fun x_6 p_7 => ?_)
  have q_8 : x_6.toInt = 0 ∨ x_6.toInt = 1 := p_7
  refine zH_eqc (rfl : x_6.toInt = _) (iL (0) (0) rfl) (fun c_9e c_9 => ?_) (fun c_9e c_9 => ?_)
  · exact zH_some trivial
  · exact zH_some trivial
theorem tX12_holderOf {T : Int32} {C : gM} {a1 : Int32} {a2 : Int32} {μ : gM}  (h : K T C μ) (g0 : 0 ≤ a1.toInt) (g1 : a1.toInt ≤ 4) : zH (fX12_holderOf a1 a2 μ) (fun v => (-1 : Int) ≤ v.toInt ∧ v.toInt ≤ 5) := by
  unfold fX12_holderOf
  have q_1 : (2 : Int32).toInt = (2 : Int) := (iL (2) (2) rfl)
  refine zH_bd (tX12_bitsOf h (by omega) (by omega)) (fun x_2 p_3 => ?_)
  have q_4 : 0 ≤ x_2.toInt ∧ x_2.toInt ≤ 63 := p_3
  refine zH_bd (tX12_partOf h) (fun x_5 p_6 => ?_)
  refine zH_bd (tX12_strongestOf h (by omega) (by omega)) (fun x_7 p_8 => ?_)
  have q_9 : (-1 : Int) ≤ x_7.toInt ∧ x_7.toInt ≤ 5 := p_8
  exact zH_some (show (-1 : Int) ≤ x_7.toInt ∧ x_7.toInt ≤ 5 from by have q_10 : (x_7).toInt = x_7.toInt := (rfl : x_7.toInt = _); omega)
theorem tX12_canGo  {a1 : Int32} {μ : gM}    : zH (fX12_canGo a1 μ) (fun v => v.toInt = 0 ∨ v.toInt = 1) := by
  unfold fX12_canGo
  refine zH_ltc (iL (9999) (9999) rfl) (rfl : ((μ 272 0) + a1).toInt = _) (fun c_1 => ?_) (fun c_1 => ?_)
  · have q_2 : (0 : Int32).toInt = (0 : Int) := (iL (0) (0) rfl)
    exact zH_some (show (0 : Int32).toInt = 0 ∨ (0 : Int32).toInt = 1 from by have q_3 : (0 : Int32).toInt = (0 : Int) := (iL (0) (0) rfl); omega)
  · have q_4 : (1 : Int32).toInt = (1 : Int) := (iL (1) (1) rfl)
    exact zH_some (show (1 : Int32).toInt = 0 ∨ (1 : Int32).toInt = 1 from by have q_5 : (1 : Int32).toInt = (1 : Int) := (iL (1) (1) rfl); omega)
theorem tX12_toPaper {T : Int32} {C : gM} {μ : gM}  (h : K T C μ)  : zH (fX12_toPaper μ) (fun ν => K T C ν) := by
  unfold fX12_toPaper
  have q_1 : (14 : Int32).toInt = (14 : Int) := (iL (14) (14) rfl)
  refine zH_bd (tX12_putsTo h (by omega) (by omega)) (fun μ_2 p_3 => ?_)
  have h_4 : K T C μ_2 := p_3.1
  have q_5 : (μ_2 267 20).toInt = (μ 267 20).toInt := p_3.2
  have f_6 : 0 ≤ (μ_2 267 20).toInt ∧ (μ_2 267 20).toInt ≤ 12 := h_4.2.2.1.2.2.2
  have f_7 : 0 ≤ (μ 267 20).toInt ∧ (μ 267 20).toInt ≤ 12 := h.2.2.1.2.2.2
  exact zH_some h_4
theorem tX12_fromPaper {T : Int32} {C : gM} {a1 : Int32} {μ : gM}  (h : K T C μ)  : zH (fX12_fromPaper a1 μ) (fun r => K T C r.2) := by
  unfold fX12_fromPaper
  have q_1 : (14 : Int32).toInt = (14 : Int) := (iL (14) (14) rfl)
  refine zH_bd (tX12_takesFrom h (by omega) (by omega)) (fun μ_2 p_3 => ?_)
  have h_4 : K T C μ_2 := p_3.1
  have q_5 : (μ_2 267 20).toInt = (μ 267 20).toInt := p_3.2
  have f_6 : 0 ≤ (μ_2 267 20).toInt ∧ (μ_2 267 20).toInt ≤ 12 := h_4.2.2.1.2.2.2
  have f_7 : 0 ≤ (μ 267 20).toInt ∧ (μ 267 20).toInt ≤ 12 := h.2.2.1.2.2.2
  exact zH_some h_4
theorem tX12_goes_l2 {T : Int32} {C : gM}    : ∀ (n : Nat) (y1 : Int32) (y2 : Int32) (μ : gM), K T C μ → y1.toInt ≤ 600 → 0 ≤ y2.toInt → y2.toInt ≤ 600 → 600 - y2.toInt < (n : Int) → zH (fX12_goes_l2  n y1 y2 μ) (fun ν => K T C ν) := by
  intro n
  induction n with
  | zero =>
    intro y1 y2 μ  h g0 g1 g2 gm
    exact absurd gm (by omega)
  | succ n ih =>
    intro y1 y2 μ  h g0 g1 g2 gm
    rw [fX12_goes_l2]
    refine zH_lec (rfl : y1.toInt = _) (rfl : y2.toInt = _) (fun c_1 => ?_) (fun c_1 => ?_)
    · exact zH_some h
    · refine zH_bd (tX12_tickGoes h) (fun μ_2 p_3 => ?_)
      have h_4 : K T C μ_2 := p_3
      refine zH_lt (fun x_5 e_6 => ?_)
      have q_7 : x_5.toInt = (y2.toInt + (1 : Int)) := (congrArg Int32.toInt e_6).trans (iA (rfl : y2.toInt = _) (iL (1) (1) rfl) (by omega) (by omega))
      exact ih y1 x_5 μ_2 h_4 (by omega) (by omega) (by omega) (by omega)
theorem tX12_goes {T : Int32} {C : gM} {a1 : Int32} {μ : gM}  (h : K T C μ) (g0 : a1.toInt ≤ 600) : zH (fX12_goes a1 μ) (fun ν => K T C ν) := by
  unfold fX12_goes
  have q_1 : (0 : Int32).toInt = (0 : Int) := (iL (0) (0) rfl)
  exact zH_mono (tX12_goes_l2 100000 a1 (0 : Int32) μ h (by omega) (by omega) (by omega) (by omega)) (fun r_3 p_2 => p_2)
theorem tX12_laysSlots_l60 {T : Int32} {C : gM} {k40 : Int32 → Int32 → Int32 → gM → Option gM} {Q : gM → Prop}  : ∀ (n : Nat) (y1 : Int32) (y3 : Int32) (y4 : Int32) (y5 : Int32) (y6 : Int32) (μ : gM), (∀ (b1 : Int32) (b2 : Int32) (b3 : Int32) (ν : gM), K T C ν → b1.toInt = y1.toInt → b3.toInt = y4.toInt + 1 → (ν 269 2).toInt = (μ 269 2).toInt → zH (k40 b1 b2 b3 ν) Q) → K T C μ → 0 ≤ y1.toInt → y1.toInt ≤ 4 → 0 ≤ y4.toInt → y4.toInt ≤ 7 → (-1 : Int) ≤ y5.toInt → y5.toInt ≤ 5 → 0 ≤ y6.toInt → y6.toInt ≤ 6 → 6 - y6.toInt < (n : Int) → zH (fX12_laysSlots_l60 k40 n y1 y3 y4 y5 y6 μ) Q := by
  intro n
  induction n with
  | zero =>
    intro y1 y3 y4 y5 y6 μ hk0 h g0 g1 g2 g3 g4 g5 g6 g7 gm
    exact absurd gm (by omega)
  | succ n ih =>
    intro y1 y3 y4 y5 y6 μ hk0 h g0 g1 g2 g3 g4 g5 g6 g7 gm
    rw [fX12_laysSlots_l60]
    refine zH_bd (tX12_gates h) (fun x_1 p_2 => ?_)
    have q_3 : 0 ≤ x_1.toInt ∧ x_1.toInt ≤ 6 := p_2
    refine zH_lec (rfl : x_1.toInt = _) (rfl : y6.toInt = _) (fun c_4 => ?_) (fun c_4 => ?_)
    · refine zH_ck (zIn (rfl : y4.toInt = _) (by omega) (by omega)) ?_
      refine zH_lt (fun μ_5 e_6 => ?_)
      have h_7 : K T C μ_5 := by rw [e_6]; exact K.uf h (by decide)
      have q_8 : (μ_5 269 2).toInt = (μ 269 2).toInt := by rw [e_6, zUp_ne _ (by omega)]
      refine zH_eqc (rfl : y5.toInt = _) (iL (-1) (-1) rfl) (fun c_9e c_9 => ?_) (fun c_9e c_9 => ?_)
      · refine zH_lt (fun x_10 e_11 => ?_)
        have q_12 : x_10.toInt = (y4.toInt + (1 : Int)) := (congrArg Int32.toInt e_11).trans (iA (rfl : y4.toInt = _) (iL (1) (1) rfl) (by omega) (by omega))
        exact hk0 y1 y3 x_10 μ_5 h_7 (by omega) (by omega) (by omega)
      · refine zH_ck (zIn (rfl : y5.toInt = _) (by omega) (by omega)) ?_
        refine zH_ck (zIn (rfl : y5.toInt = _) (by omega) (by omega)) ?_
        refine zH_lt (fun μ_13 e_14 => ?_)
        have h_15 : K T C μ_13 := by rw [e_14]; exact K.uf h_7 (by decide)
        have q_16 : (μ_13 269 2).toInt = (μ_5 269 2).toInt := by rw [e_14, zUp_ne _ (by omega)]
        refine zH_lt (fun x_17 e_18 => ?_)
        have q_19 : x_17.toInt = (y4.toInt + (1 : Int)) := (congrArg Int32.toInt e_18).trans (iA (rfl : y4.toInt = _) (iL (1) (1) rfl) (by omega) (by omega))
        exact hk0 y1 y3 x_17 μ_13 h_15 (by omega) (by omega) (by omega)
    · refine zH_bd (tX12_isOf) (fun x_20 p_21 => ?_)
      have q_22 : x_20.toInt = 0 ∨ x_20.toInt = 1 := p_21
      refine zH_eqc (rfl : x_20.toInt = _) (iL (0) (0) rfl) (fun c_23e c_23 => ?_) (fun c_23e c_23 => ?_)
      · refine zH_lt (fun x_24 e_25 => ?_)
        have q_26 : x_24.toInt = (y6.toInt + (1 : Int)) := (congrArg Int32.toInt e_25).trans (iA (rfl : y6.toInt = _) (iL (1) (1) rfl) (by omega) (by omega))
        exact ih y1 y3 y4 y5 x_24 μ (fun b_27 b_28 b_29 μ_30 h_31 c_32 c_33 c_34 => hk0 b_27 b_28 b_29 μ_30 h_31 (by omega) (by omega) (by omega)) h (by omega) (by omega) (by omega) (by omega) (by omega) (by omega) (by omega) (by omega) (by omega)
      · refine zH_bd (tX12_of (by omega) (by omega) (by omega) (by omega)) (fun x_35 p_36 => ?_)
        have q_37 : x_35.toInt = 6 * y1.toInt + y6.toInt := p_36
        refine zH_ck (zIn (iA (iL (83) (83) rfl) (rfl : x_35.toInt = _) (by omega) (by omega)) (by omega) (by omega)) ?_
        refine zH_eqc (rfl : (μ 269 (((83 : Int32) + x_35)).toNatClampNeg).toInt = _) (iL (0) (0) rfl) (fun c_38e c_38 => ?_) (fun c_38e c_38 => ?_)
        · refine zH_lt (fun x_39 e_40 => ?_)
          have q_41 : x_39.toInt = (y6.toInt + (1 : Int)) := (congrArg Int32.toInt e_40).trans (iA (rfl : y6.toInt = _) (iL (1) (1) rfl) (by omega) (by omega))
          exact ih y1 y3 y4 y5 x_39 μ (fun b_42 b_43 b_44 μ_45 h_46 c_47 c_48 c_49 => hk0 b_42 b_43 b_44 μ_45 h_46 (by omega) (by omega) (by omega)) h (by omega) (by omega) (by omega) (by omega) (by omega) (by omega) (by omega) (by omega) (by omega)
        · refine zH_eqc (rfl : y5.toInt = _) (iL (-1) (-1) rfl) (fun c_50e c_50 => ?_) (fun c_50e c_50 => ?_)
          · refine zH_lt (fun x_51 e_52 => ?_)
            have q_53 : x_51.toInt = (y6.toInt + (1 : Int)) := (congrArg Int32.toInt e_52).trans (iA (rfl : y6.toInt = _) (iL (1) (1) rfl) (by omega) (by omega))
            exact ih y1 y3 y4 y6 x_51 μ (fun b_54 b_55 b_56 μ_57 h_58 c_59 c_60 c_61 => hk0 b_54 b_55 b_56 μ_57 h_58 (by omega) (by omega) (by omega)) h (by omega) (by omega) (by omega) (by omega) (by omega) (by omega) (by omega) (by omega) (by omega)
          · refine zH_bd (tX12_of (by omega) (by omega) (by omega) (by omega)) (fun x_62 p_63 => ?_)
            have q_64 : x_62.toInt = 6 * y1.toInt + y6.toInt := p_63
            refine zH_ck (zIn (iA (iL (83) (83) rfl) (rfl : x_62.toInt = _) (by omega) (by omega)) (by omega) (by omega)) ?_
            refine zH_ck (zIn (rfl : y5.toInt = _) (by omega) (by omega)) ?_
            refine zH_bd (tX12_of (by omega) (by omega) (by omega) (by omega)) (fun x_65 p_66 => ?_)
            have q_67 : x_65.toInt = 6 * y1.toInt + y5.toInt := p_66
            refine zH_ck (zIn (iA (iL (83) (83) rfl) (rfl : x_65.toInt = _) (by omega) (by omega)) (by omega) (by omega)) ?_
            refine zH_ck (zIn (rfl : y6.toInt = _) (by omega) (by omega)) ?_
            refine zH_lec (rfl : ((μ 269 (((83 : Int32) + x_62)).toNatClampNeg) * ((μ 277 (y5).toNatClampNeg) + (1 : Int32))).toInt = _) (rfl : ((μ 269 (((83 : Int32) + x_65)).toNatClampNeg) * ((μ 277 (y6).toNatClampNeg) + (1 : Int32))).toInt = _) (fun c_68 => ?_) (fun c_68 => ?_)
            · refine zH_lt (fun x_69 e_70 => ?_)
              have q_71 : x_69.toInt = (y6.toInt + (1 : Int)) := (congrArg Int32.toInt e_70).trans (iA (rfl : y6.toInt = _) (iL (1) (1) rfl) (by omega) (by omega))
              exact ih y1 y3 y4 y5 x_69 μ (fun b_72 b_73 b_74 μ_75 h_76 c_77 c_78 c_79 => hk0 b_72 b_73 b_74 μ_75 h_76 (by omega) (by omega) (by omega)) h (by omega) (by omega) (by omega) (by omega) (by omega) (by omega) (by omega) (by omega) (by omega)
            · refine zH_lt (fun x_80 e_81 => ?_)
              have q_82 : x_80.toInt = (y6.toInt + (1 : Int)) := (congrArg Int32.toInt e_81).trans (iA (rfl : y6.toInt = _) (iL (1) (1) rfl) (by omega) (by omega))
              exact ih y1 y3 y4 y6 x_80 μ (fun b_83 b_84 b_85 μ_86 h_87 c_88 c_89 c_90 => hk0 b_83 b_84 b_85 μ_86 h_87 (by omega) (by omega) (by omega)) h (by omega) (by omega) (by omega) (by omega) (by omega) (by omega) (by omega) (by omega) (by omega)
theorem tX12_laysSlots_l40 {T : Int32} {C : gM}    : ∀ (n : Nat) (y1 : Int32) (y3 : Int32) (y4 : Int32) (μ : gM), K T C μ → 0 ≤ y1.toInt → y1.toInt ≤ 4 → 0 ≤ y4.toInt → y4.toInt ≤ 8 → 8 - y4.toInt < (n : Int) → zH (fX12_laysSlots_l40  n y1 y3 y4 μ) (fun ν => K T C ν ∧ ((ν 269 2).toInt = (μ 269 2).toInt)) := by
  intro n
  induction n with
  | zero =>
    intro y1 y3 y4 μ  h g0 g1 g2 g3 gm
    exact absurd gm (by omega)
  | succ n ih =>
    intro y1 y3 y4 μ  h g0 g1 g2 g3 gm
    rw [fX12_laysSlots_l40]
    refine zH_ck (zIn (iA (iL (43) (43) rfl) (rfl : y1.toInt = _) (by omega) (by omega)) (by omega) (by omega)) ?_
    have m43 : 0 ≤ (μ 269 ((43 : Int32) + y1).toNatClampNeg).toInt ∧ (μ 269 ((43 : Int32) + y1).toNatClampNeg).toInt ≤ 8 := h.m43 (iA (iL (43) (43) rfl) (rfl : y1.toInt = _) (by omega) (by omega)) (by omega) (by omega)
    refine zH_lec (rfl : (μ 269 (((43 : Int32) + y1)).toNatClampNeg).toInt = _) (rfl : y4.toInt = _) (fun c_1 => ?_) (fun c_1 => ?_)
    · exact zH_some ⟨h, show (μ 269 2).toInt = (μ 269 2).toInt from by omega⟩
    · have q_2 : (-1 : Int32).toInt = (-1 : Int) := (iL (-1) (-1) rfl)
      have q_3 : (0 : Int32).toInt = (0 : Int) := (iL (0) (0) rfl)
      exact tX12_laysSlots_l60 100000 y1 y3 y4 (-1 : Int32) (0 : Int32) μ (fun b_4 b_5 b_6 μ_7 h_8 c_9 c_10 c_11 => zH_mono (ih b_4 b_5 b_6 μ_7 h_8 (by omega) (by omega) (by omega) (by omega) (by omega)) (fun r_13 p_12 => ⟨p_12.1, show (r_13 269 2).toInt = (μ 269 2).toInt from by have q_14 : (r_13 269 2).toInt = (μ_7 269 2).toInt := p_12.2; omega⟩)) h (by omega) (by omega) (by omega) (by omega) (by omega) (by omega) (by omega) (by omega) (by omega)
theorem tX12_laysSlots_l16 {T : Int32} {C : gM}    : ∀ (n : Nat) (y1 : Int32) (y3 : Int32) (y4 : Int32) (μ : gM), K T C μ → 0 ≤ y1.toInt → y1.toInt ≤ 4 → 0 ≤ y4.toInt → y4.toInt ≤ 6 → 6 - y4.toInt < (n : Int) → zH (fX12_laysSlots_l16  n y1 y3 y4 μ) (fun ν => K T C ν ∧ ((ν 269 2).toInt = (μ 269 2).toInt)) := by
  intro n
  induction n with
  | zero =>
    intro y1 y3 y4 μ  h g0 g1 g2 g3 gm
    exact absurd gm (by omega)
  | succ n ih =>
    intro y1 y3 y4 μ  h g0 g1 g2 g3 gm
    rw [fX12_laysSlots_l16]
    refine zH_lec (iL (6) (6) rfl) (rfl : y4.toInt = _) (fun c_1 => ?_) (fun c_1 => ?_)
    · have q_2 : (0 : Int32).toInt = (0 : Int) := (iL (0) (0) rfl)
      exact zH_mono (tX12_laysSlots_l40 100000 y1 y3 (0 : Int32) μ h (by omega) (by omega) (by omega) (by omega) (by omega)) (fun r_4 p_3 => ⟨p_3.1, show (r_4 269 2).toInt = (μ 269 2).toInt from by have q_5 : (r_4 269 2).toInt = (μ 269 2).toInt := p_3.2; omega⟩)
    · refine zH_ck (zIn (rfl : y4.toInt = _) (by omega) (by omega)) ?_
      refine zH_lt (fun μ_6 e_7 => ?_)
      have h_8 : K T C μ_6 := by rw [e_7]; exact K.uf h (by decide)
      have q_9 : (μ_6 269 2).toInt = (μ 269 2).toInt := by rw [e_7, zUp_ne _ (by omega)]
      refine zH_lt (fun x_10 e_11 => ?_)
      have q_12 : x_10.toInt = (y4.toInt + (1 : Int)) := (congrArg Int32.toInt e_11).trans (iA (rfl : y4.toInt = _) (iL (1) (1) rfl) (by omega) (by omega))
      exact zH_mono (ih y1 y3 x_10 μ_6 h_8 (by omega) (by omega) (by omega) (by omega) (by omega)) (fun r_14 p_13 => ⟨p_13.1, show (r_14 269 2).toInt = (μ 269 2).toInt from by have q_15 : (r_14 269 2).toInt = (μ_6 269 2).toInt := p_13.2; omega⟩)
theorem tX12_laysSlots {T : Int32} {C : gM} {a1 : Int32} {a2 : Int32} {μ : gM}  (h : K T C μ) (g0 : 0 ≤ a1.toInt) (g1 : a1.toInt ≤ 4) : zH (fX12_laysSlots a1 a2 μ) (fun ν => K T C ν ∧ ((ν 269 2).toInt = (μ 269 2).toInt)) := by
  unfold fX12_laysSlots
  have q_1 : (1 : Int32).toInt = (1 : Int) := (iL (1) (1) rfl)
  refine zH_bd (tX12_bitsOf h (by omega) (by omega)) (fun x_2 p_3 => ?_)
  have q_4 : 0 ≤ x_2.toInt ∧ x_2.toInt ≤ 63 := p_3
  refine zH_bd (tX12_partOf h) (fun x_5 p_6 => ?_)
  refine zH_lt (fun x_7 e_8 => ?_)
  have q_9 : (0 : Int32).toInt = (0 : Int) := (iL (0) (0) rfl)
  exact zH_mono (tX12_laysSlots_l16 100000 a1 x_7 (0 : Int32) μ h (by omega) (by omega) (by omega) (by omega) (by omega)) (fun r_11 p_10 => ⟨p_10.1, show (r_11 269 2).toInt = (μ 269 2).toInt from by have q_12 : (r_11 269 2).toInt = (μ 269 2).toInt := p_10.2; omega⟩)
theorem tX12_load_l58 {T : Int32} {C : gM}    : ∀ (n : Nat) (y2 : Int32) (y3 : Int32) (y4 : Int32) (y5 : Int32) (y6 : Int32) (μ : gM), K T C μ → 0 ≤ y6.toInt → y6.toInt ≤ 8 → y4.toInt ≤ 8 → 8 - y6.toInt < (n : Int) → zH (fX12_load_l58  n y2 y3 y4 y5 y6 μ) (fun r => K T C r.2) := by
  intro n
  induction n with
  | zero =>
    intro y2 y3 y4 y5 y6 μ  h g0 g1 g2 gm
    exact absurd gm (by omega)
  | succ n ih =>
    intro y2 y3 y4 y5 y6 μ  h g0 g1 g2 gm
    rw [fX12_load_l58]
    refine zH_lec (rfl : y4.toInt = _) (rfl : y6.toInt = _) (fun c_1 => ?_) (fun c_1 => ?_)
    · exact zH_some h
    · refine zH_ck (zIn (rfl : y6.toInt = _) (by omega) (by omega)) ?_
      refine zH_eqc (rfl : (μ 276 (y6).toNatClampNeg).toInt = _) (rfl : y2.toInt = _) (fun c_2e c_2 => ?_) (fun c_2e c_2 => ?_)
      · refine zH_ck (zNz (by omega)) ?_
        refine zH_ck (zNz (by omega)) ?_
        refine zH_lec (rfl : (y3 - y3 / y4 * y4).toInt = _) (rfl : y6.toInt = _) (fun c_3 => ?_) (fun c_3 => ?_)
        · unfold fX12_load_n96
          have q_4 : (0 : Int32).toInt = (0 : Int) := (iL (0) (0) rfl)
          refine zH_bd (tX12_flag) (fun x_5 p_6 => ?_)
          have q_7 : x_5.toInt = 0 ∨ x_5.toInt = 1 := p_6
          refine zH_lt (fun x_8 e_9 => ?_)
          refine zH_lt (fun x_10 e_11 => ?_)
          have q_12 : x_10.toInt = (y6.toInt + (1 : Int)) := (congrArg Int32.toInt e_11).trans (iA (rfl : y6.toInt = _) (iL (1) (1) rfl) (by omega) (by omega))
          exact ih y2 y3 y4 x_8 x_10 μ h (by omega) (by omega) (by omega) (by omega)
        · unfold fX12_load_n96
          have q_13 : (1 : Int32).toInt = (1 : Int) := (iL (1) (1) rfl)
          refine zH_bd (tX12_flag) (fun x_14 p_15 => ?_)
          have q_16 : x_14.toInt = 0 ∨ x_14.toInt = 1 := p_15
          refine zH_lt (fun x_17 e_18 => ?_)
          refine zH_lt (fun x_19 e_20 => ?_)
          have q_21 : x_19.toInt = (y6.toInt + (1 : Int)) := (congrArg Int32.toInt e_20).trans (iA (rfl : y6.toInt = _) (iL (1) (1) rfl) (by omega) (by omega))
          exact ih y2 y3 y4 x_17 x_19 μ h (by omega) (by omega) (by omega) (by omega)
      · refine zH_lt (fun x_22 e_23 => ?_)
        have q_24 : x_22.toInt = (y6.toInt + (1 : Int)) := (congrArg Int32.toInt e_23).trans (iA (rfl : y6.toInt = _) (iL (1) (1) rfl) (by omega) (by omega))
        exact ih y2 y3 y4 y5 x_22 μ h (by omega) (by omega) (by omega) (by omega)
theorem tX12_failsIn_l23 {T : Int32} {C : gM}    : ∀ (n : Nat) (y1 : Int32) (y2 : Int32) (y3 : Int32) (μ : gM), K T C μ → 0 ≤ y1.toInt → y1.toInt ≤ 4 → 0 ≤ y3.toInt → y3.toInt ≤ 500 → 500 - y3.toInt < (n : Int) → zH (fX12_failsIn_l23  n y1 y2 y3 μ) (fun r => K T C r.2) := by
  intro n
  induction n with
  | zero =>
    intro y1 y2 y3 μ  h g0 g1 g2 g3 gm
    exact absurd gm (by omega)
  | succ n ih =>
    intro y1 y2 y3 μ  h g0 g1 g2 g3 gm
    rw [fX12_failsIn_l23]
    refine zH_eqc (rfl : (μ 267 26).toInt = _) (iL (-1) (-1) rfl) (fun c_1e c_1 => ?_) (fun c_1e c_1 => ?_)
    · refine zH_lec (iL (500) (500) rfl) (rfl : y3.toInt = _) (fun c_2 => ?_) (fun c_2 => ?_)
      · unfold fX12_failsIn_n83
        refine zH_eqc (rfl : (μ 267 26).toInt = _) (iL (-1) (-1) rfl) (fun c_3e c_3 => ?_) (fun c_3e c_3 => ?_)
        · unfold fX12_failsIn_n97
          have q_4 : (-1 : Int32).toInt = (-1 : Int) := (iL (-1) (-1) rfl)
          refine zH_bp (tX12_fromPaper h) (fun x_5 μ_6 p_7 => ?_)
          have h_8 : K T C μ_6 := p_7
          exact zH_some h_8
        · unfold fX12_failsIn_n97
          refine zH_bp (tX12_fromPaper h) (fun x_9 μ_10 p_11 => ?_)
          have h_12 : K T C μ_10 := p_11
          exact zH_some h_12
      · have q_13 : (1 : Int32).toInt = (1 : Int) := (iL (1) (1) rfl)
        refine zH_bd (tX12_canGo) (fun x_14 p_15 => ?_)
        have q_16 : x_14.toInt = 0 ∨ x_14.toInt = 1 := p_15
        refine zH_eqc (rfl : x_14.toInt = _) (iL (0) (0) rfl) (fun c_17e c_17 => ?_) (fun c_17e c_17 => ?_)
        · unfold fX12_failsIn_n83
          refine zH_eqc (rfl : (μ 267 26).toInt = _) (iL (-1) (-1) rfl) (fun c_18e c_18 => ?_) (fun c_18e c_18 => ?_)
          · unfold fX12_failsIn_n97
            have q_19 : (-1 : Int32).toInt = (-1 : Int) := (iL (-1) (-1) rfl)
            refine zH_bp (tX12_fromPaper h) (fun x_20 μ_21 p_22 => ?_)
            have h_23 : K T C μ_21 := p_22
            exact zH_some h_23
          · unfold fX12_failsIn_n97
            refine zH_bp (tX12_fromPaper h) (fun x_24 μ_25 p_26 => ?_)
            have h_27 : K T C μ_25 := p_26
            exact zH_some h_27
        · refine zH_bd (tX12_tickGoes h) (fun μ_28 p_29 => ?_)
          have h_30 : K T C μ_28 := p_29
          refine zH_lt (fun x_31 e_32 => ?_)
          have q_33 : x_31.toInt = (y3.toInt + (1 : Int)) := (congrArg Int32.toInt e_32).trans (iA (rfl : y3.toInt = _) (iL (1) (1) rfl) (by omega) (by omega))
          have q_34 : (2 : Int32).toInt = (2 : Int) := (iL (2) (2) rfl)
          refine zH_bd (tX12_bitsOf h_30 (by omega) (by omega)) (fun x_35 p_36 => ?_)
          have q_37 : 0 ≤ x_35.toInt ∧ x_35.toInt ≤ 63 := p_36
          refine zH_bd (tX12_partOf h_30) (fun x_38 p_39 => ?_)
          refine zH_bd (tX12_strongestOf h_30 (by omega) (by omega)) (fun x_40 p_41 => ?_)
          have q_42 : (-1 : Int) ≤ x_40.toInt ∧ x_40.toInt ≤ 5 := p_41
          refine zH_lt (fun μ_43 e_44 => ?_)
          have h_45 : K T C μ_43 := by rw [e_44]; exact K.u267 h_30 (by decide) (fun e => absurd e (by decide)) (fun e => absurd e (by decide))
          exact ih y1 y2 x_31 μ_43 h_45 (by omega) (by omega) (by omega) (by omega) (by omega)
    · unfold fX12_failsIn_n83
      refine zH_eqc (rfl : (μ 267 26).toInt = _) (iL (-1) (-1) rfl) (fun c_46e c_46 => ?_) (fun c_46e c_46 => ?_)
      · unfold fX12_failsIn_n97
        have q_47 : (-1 : Int32).toInt = (-1 : Int) := (iL (-1) (-1) rfl)
        refine zH_bp (tX12_fromPaper h) (fun x_48 μ_49 p_50 => ?_)
        have h_51 : K T C μ_49 := p_50
        exact zH_some h_51
      · unfold fX12_failsIn_n97
        refine zH_bp (tX12_fromPaper h) (fun x_52 μ_53 p_54 => ?_)
        have h_55 : K T C μ_53 := p_54
        exact zH_some h_55
theorem tX12_failsIn {T : Int32} {C : gM} {a1 : Int32} {a2 : Int32} {μ : gM}  (h : K T C μ) (g0 : 0 ≤ a1.toInt) (g1 : a1.toInt ≤ 4) (g2 : 0 ≤ a2.toInt) (g3 : a2.toInt ≤ 5) : zH (fX12_failsIn a1 a2 μ) (fun r => K T C r.2) := by
  unfold fX12_failsIn
  refine zH_bd (tX12_toPaper h) (fun μ_1 p_2 => ?_)
  have h_3 : K T C μ_1 := p_2
  have q_4 : (0 : Int32).toInt = (0 : Int) := (iL (0) (0) rfl)
  refine zH_bp (tX12_goesDown h_3 (by omega) (by omega)) (fun x_5 μ_6 p_7 => ?_)
  have h_8 : K T C μ_6 := p_7
  refine zH_bd (tX12_holderOf h_8 (by omega) (by omega)) (fun x_9 p_10 => ?_)
  have q_11 : (-1 : Int) ≤ x_9.toInt ∧ x_9.toInt ≤ 5 := p_10
  refine zH_lt (fun μ_12 e_13 => ?_)
  have h_14 : K T C μ_12 := by rw [e_13]; exact K.u267 h_8 (by decide) (fun e => absurd e (by decide)) (fun e => absurd e (by decide))
  exact zH_mono (tX12_failsIn_l23 100000 a1 a2 (0 : Int32) μ_12 h_14 (by omega) (by omega) (by omega) (by omega) (by omega)) (fun r_16 p_15 => p_15)
