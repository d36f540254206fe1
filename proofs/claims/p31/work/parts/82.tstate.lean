theorem tX9_copyNumbers {w : Bool} {L : Int32} {M : gM} {p0 : Nat} {p1 : Nat} {μ : gM} (hp0 : sS p0) (hp1 : sS p1) (h : J w L M μ)  : zH (fX9_copyNumbers p0 p1 μ) (fun ν => J w L M ν) := by
  unfold fX9_copyNumbers
  refine zH_lt (fun μ_1 e_2 => ?_)
  have h_3 : J w L M μ_1 := by rw [e_2]; exact J.upf h (a := p0) (k := (0, 9)) (hp0.1 0 (by decide)) (fx34 (by have := hp0.2.2; omega) (by have := hp0.2.1; omega)) (by decide) (by decide) (Or.inl (by have := hp0.2.2; omega)) rfl
  refine zH_lt (fun μ_4 e_5 => ?_)
  have h_6 : J w L M μ_4 := by rw [e_5]; exact J.upf h_3 (a := p0) (k := (0, 9)) (hp0.1 0 (by decide)) (fx34 (by have := hp0.2.2; omega) (by have := hp0.2.1; omega)) (by decide) (by decide) (Or.inl (by have := hp0.2.2; omega)) rfl
  refine zH_lt (fun μ_7 e_8 => ?_)
  have h_9 : J w L M μ_7 := by rw [e_8]; exact J.upf h_6 (a := p0) (k := (0, 9)) (hp0.1 0 (by decide)) (fx34 (by have := hp0.2.2; omega) (by have := hp0.2.1; omega)) (by decide) (by decide) (Or.inl (by have := hp0.2.2; omega)) rfl
  refine zH_lt (fun μ_10 e_11 => ?_)
  have h_12 : J w L M μ_10 := by rw [e_11]; exact J.upf h_9 (a := p0) (k := (0, 9)) (hp0.1 0 (by decide)) (fx34 (by have := hp0.2.2; omega) (by have := hp0.2.1; omega)) (by decide) (by decide) (Or.inl (by have := hp0.2.2; omega)) rfl
  refine zH_lt (fun μ_13 e_14 => ?_)
  have h_15 : J w L M μ_13 := by rw [e_14]; exact J.upf h_12 (a := p0) (k := (0, 9)) (hp0.1 0 (by decide)) (fx34 (by have := hp0.2.2; omega) (by have := hp0.2.1; omega)) (by decide) (by decide) (Or.inl (by have := hp0.2.2; omega)) rfl
  refine zH_lt (fun μ_16 e_17 => ?_)
  have h_18 : J w L M μ_16 := by rw [e_17]; exact J.upf h_15 (a := p0) (k := (0, 9)) (hp0.1 0 (by decide)) (fx34 (by have := hp0.2.2; omega) (by have := hp0.2.1; omega)) (by decide) (by decide) (Or.inl (by have := hp0.2.2; omega)) rfl
  refine zH_lt (fun μ_19 e_20 => ?_)
  have h_21 : J w L M μ_19 := by rw [e_20]; exact J.upf h_18 (a := p0) (k := (0, 9)) (hp0.1 0 (by decide)) (fx34 (by have := hp0.2.2; omega) (by have := hp0.2.1; omega)) (by decide) (by decide) (Or.inl (by have := hp0.2.2; omega)) rfl
  refine zH_lt (fun μ_22 e_23 => ?_)
  have h_24 : J w L M μ_22 := by rw [e_23]; exact J.upf h_21 (a := p0) (k := (0, 9)) (hp0.1 0 (by decide)) (fx34 (by have := hp0.2.2; omega) (by have := hp0.2.1; omega)) (by decide) (by decide) (Or.inl (by have := hp0.2.2; omega)) rfl
  have f_28 : (0 : Int) ≤ (μ_22 p1 8).toInt ∧ (μ_22 p1 8).toInt ≤ 2147483647 := h_24.rd (a := p1) (hp1.1 0 (by decide)) (by have := hp1.2.1; omega) 8
  refine zH_lt (fun μ_25 e_26 => ?_)
  have h_27 : J w L M μ_25 := by rw [e_26]; exact J.up h_24 (a := p0) (k := (0, 9)) (hp0.1 0 (by decide)) (fx34 (by have := hp0.2.2; omega) (by have := hp0.2.1; omega)) (by decide) (by decide) (Or.inl (by have := hp0.2.2; omega)) (show (0 : Int) ≤ (μ_22 p1 8).toInt ∧ (μ_22 p1 8).toInt ≤ 2147483647 from by have q_29 : (μ_22 p1 8).toInt = (μ_22 p1 8).toInt := (rfl : (μ_22 p1 8).toInt = _); omega)
  exact zH_some h_27
theorem tX9_copyFrom {w : Bool} {L : Int32} {M : gM} {p0 : Nat} {p1 : Nat} {μ : gM} (hp0 : sS p0) (hp1 : sS p1) (h : J w L M μ)  : zH (fX9_copyFrom p0 p1 μ) (fun ν => J w L M ν) := by
  unfold fX9_copyFrom
  refine zH_bd (tX9_copyNumbers hp0 hp1 h) (fun μ_1 p_2 => ?_)
  have h_3 : J w L M μ_1 := p_2
  refine zH_bd (tX5_copyFrom h_3 (hp0.1 1 (by decide)) (by have := hp0.2.1; omega) (by have := hp0.2.2; omega) (hp1.1 1 (by decide)) (by have := hp1.2.1; omega) (h_3.2.1 _ (by have := hp1.2.1; omega) (hp1.1 1 (by decide)) (by have := hp1.2.2; omega))) (fun μ_4 p_5 => ?_)
  have h_6 : J w L M μ_4 := p_5
  refine zH_bd (tX0_copyFrom (hp0).c (hp1).c h_6) (fun μ_7 p_8 => ?_)
  have h_9 : J w L M μ_7 := p_8
  refine zH_lt (fun μ_10 e_11 => ?_)
  have h_12 : J w L M μ_10 := by rw [e_11]; exact J.cp h_9 (a := (p0 + 5)) (b := (p1 + 5)) (k := (1, 5)) (hp0.1 5 (by decide)) (hp1.1 5 (by decide)) (fx34 (by have := hp0.2.2; omega) (by have := hp0.2.1; omega)) (by have := hp1.2.1; omega) (by decide) (by decide) (by have := hp0.2.2; omega)
  refine zH_lt (fun μ_13 e_14 => ?_)
  have h_15 : J w L M μ_13 := by rw [e_14]; exact J.cp h_12 (a := (p0 + 6)) (b := (p1 + 6)) (k := (1, 5)) (hp0.1 6 (by decide)) (hp1.1 6 (by decide)) (fx34 (by have := hp0.2.2; omega) (by have := hp0.2.1; omega)) (by have := hp1.2.1; omega) (by decide) (by decide) (by have := hp0.2.2; omega)
  refine zH_lt (fun μ_16 e_17 => ?_)
  have h_18 : J w L M μ_16 := by rw [e_17]; exact J.cp h_15 (a := (p0 + 7)) (b := (p1 + 7)) (k := (1, 5)) (hp0.1 7 (by decide)) (hp1.1 7 (by decide)) (fx34 (by have := hp0.2.2; omega) (by have := hp0.2.1; omega)) (by have := hp1.2.1; omega) (by decide) (by decide) (by have := hp0.2.2; omega)
  refine zH_lt (fun μ_19 e_20 => ?_)
  have h_21 : J w L M μ_19 := by rw [e_20]; exact J.cp h_18 (a := (p0 + 8)) (b := (p1 + 8)) (k := (1, 5)) (hp0.1 8 (by decide)) (hp1.1 8 (by decide)) (fx34 (by have := hp0.2.2; omega) (by have := hp0.2.1; omega)) (by have := hp1.2.1; omega) (by decide) (by decide) (by have := hp0.2.2; omega)
  refine zH_lt (fun μ_22 e_23 => ?_)
  have h_24 : J w L M μ_22 := by rw [e_23]; exact J.cp h_21 (a := (p0 + 9)) (b := (p1 + 9)) (k := (1, 30)) (hp0.1 9 (by decide)) (hp1.1 9 (by decide)) (fx34 (by have := hp0.2.2; omega) (by have := hp0.2.1; omega)) (by have := hp1.2.1; omega) (by decide) (by decide) (by have := hp0.2.2; omega)
  refine zH_lt (fun μ_25 e_26 => ?_)
  have h_27 : J w L M μ_25 := by rw [e_26]; exact J.cp h_24 (a := (p0 + 10)) (b := (p1 + 10)) (k := (1, 30)) (hp0.1 10 (by decide)) (hp1.1 10 (by decide)) (fx34 (by have := hp0.2.2; omega) (by have := hp0.2.1; omega)) (by have := hp1.2.1; omega) (by decide) (by decide) (by have := hp0.2.2; omega)
  refine zH_lt (fun μ_28 e_29 => ?_)
  have h_30 : J w L M μ_28 := by rw [e_29]; exact J.cp h_27 (a := (p0 + 11)) (b := (p1 + 11)) (k := (1, 30)) (hp0.1 11 (by decide)) (hp1.1 11 (by decide)) (fx34 (by have := hp0.2.2; omega) (by have := hp0.2.1; omega)) (by have := hp1.2.1; omega) (by decide) (by decide) (by have := hp0.2.2; omega)
  refine zH_lt (fun μ_31 e_32 => ?_)
  have h_33 : J w L M μ_31 := by rw [e_32]; exact J.cp h_30 (a := (p0 + 12)) (b := (p1 + 12)) (k := (1, 30)) (hp0.1 12 (by decide)) (hp1.1 12 (by decide)) (fx34 (by have := hp0.2.2; omega) (by have := hp0.2.1; omega)) (by have := hp1.2.1; omega) (by decide) (by decide) (by have := hp0.2.2; omega)
  refine zH_lt (fun μ_34 e_35 => ?_)
  have h_36 : J w L M μ_34 := by rw [e_35]; exact J.cp h_33 (a := (p0 + 13)) (b := (p1 + 13)) (k := (1, 30)) (hp0.1 13 (by decide)) (hp1.1 13 (by decide)) (fx34 (by have := hp0.2.2; omega) (by have := hp0.2.1; omega)) (by have := hp1.2.1; omega) (by decide) (by decide) (by have := hp0.2.2; omega)
  exact zH_some h_36
theorem tX9_isDouble  {p0 : Nat} {a1 : Int32} {μ : gM}   (g0 : 0 ≤ a1.toInt) (g1 : a1.toInt ≤ 4) : zH (fX9_isDouble p0 a1 μ) (fun v => v.toInt = 0 ∨ v.toInt = 1) := by
  unfold fX9_isDouble
  refine zH_ck (zIn (rfl : a1.toInt = _) (by omega) (by omega)) ?_
  refine zH_lt (fun x_1 e_2 => ?_)
  refine zH_bd (tJ6_bitCount_0f7a4) (fun x_3 p_4 => ?_)
  have q_5 : x_3.toInt ≤ 63 := p_4
  refine zH_ltc (iL (1) (1) rfl) (rfl : x_3.toInt = _) (fun c_6 => ?_) (fun c_6 => ?_)
  · have q_7 : (1 : Int32).toInt = (1 : Int) := (iL (1) (1) rfl)
    exact zH_some (show (1 : Int32).toInt = 0 ∨ (1 : Int32).toInt = 1 from by have q_8 : (1 : Int32).toInt = (1 : Int) := (iL (1) (1) rfl); omega)
  · refine zH_bd (tJ6_bitCount_0f7a4) (fun x_9 p_10 => ?_)
    have q_11 : x_9.toInt ≤ 63 := p_10
    refine zH_lec (rfl : x_9.toInt = _) (iL (1) (1) rfl) (fun c_12 => ?_) (fun c_12 => ?_)
    · have q_13 : (0 : Int32).toInt = (0 : Int) := (iL (0) (0) rfl)
      exact zH_some (show (0 : Int32).toInt = 0 ∨ (0 : Int32).toInt = 1 from by have q_14 : (0 : Int32).toInt = (0 : Int) := (iL (0) (0) rfl); omega)
    · have q_15 : (1 : Int32).toInt = (1 : Int) := (iL (1) (1) rfl)
      exact zH_some (show (1 : Int32).toInt = 0 ∨ (1 : Int32).toInt = 1 from by have q_16 : (1 : Int32).toInt = (1 : Int) := (iL (1) (1) rfl); omega)
theorem tX9_isHeld  {p0 : Nat} {a1 : Int32} {a2 : Int32} {μ : gM}   (g0 : 0 ≤ a1.toInt) (g1 : a1.toInt ≤ 4) : zH (fX9_isHeld p0 a1 a2 μ) (fun v => v.toInt = 0 ∨ v.toInt = 1) := by
  unfold fX9_isHeld
  refine zH_ck (zIn (rfl : a1.toInt = _) (by omega) (by omega)) ?_
  refine zH_eqc (rfl : (((μ (p0 + 5) (a1).toNatClampNeg) >>> (a2 &&& 31)) &&& (1 : Int32)).toInt = _) (iL (1) (1) rfl) (fun c_1e c_1 => ?_) (fun c_1e c_1 => ?_)
  · have q_2 : (1 : Int32).toInt = (1 : Int) := (iL (1) (1) rfl)
    exact zH_some (show (1 : Int32).toInt = 0 ∨ (1 : Int32).toInt = 1 from by have q_3 : (1 : Int32).toInt = (1 : Int) := (iL (1) (1) rfl); omega)
  · have q_4 : (0 : Int32).toInt = (0 : Int) := (iL (0) (0) rfl)
    exact zH_some (show (0 : Int32).toInt = 0 ∨ (0 : Int32).toInt = 1 from by have q_5 : (0 : Int32).toInt = (0 : Int) := (iL (0) (0) rfl); omega)
theorem tX9_beside  {p0 : Nat} {a1 : Int32} {μ : gM}    : zH (fX9_beside p0 a1 μ) (fun _ => True) := by
  unfold fX9_beside
  refine zH_eqc (rfl : (((μ p0 3) >>> (a1 &&& 31)) &&& (1 : Int32)).toInt = _) (iL (1) (1) rfl) (fun c_1e c_1 => ?_) (fun c_1e c_1 => ?_)
  · exact zH_some trivial
  · exact zH_some trivial
theorem tX9_strongest_l5  {p0 : Nat}   : ∀ (n : Nat) (y1 : Int32) (y2 : Int32) (y3 : Int32) (y4 : Int32) (μ : gM), 0 ≤ y1.toInt → y1.toInt ≤ 4 → (-1 : Int) ≤ y3.toInt → y3.toInt ≤ 5 → 0 ≤ y4.toInt → y4.toInt ≤ 6 → 6 - y4.toInt < (n : Int) → zH (fX9_strongest_l5 p0 n y1 y2 y3 y4 μ) (fun v => (-1 : Int) ≤ v.toInt ∧ v.toInt ≤ 5) := by
  intro n
  induction n with
  | zero =>
    intro y1 y2 y3 y4 μ  g0 g1 g2 g3 g4 g5 gm
    exact absurd gm (by omega)
  | succ n ih =>
    intro y1 y2 y3 y4 μ  g0 g1 g2 g3 g4 g5 gm
    rw [fX9_strongest_l5]
    refine zH_lec (iL (6) (6) rfl) (rfl : y4.toInt = _) (fun c_1 => ?_) (fun c_1 => ?_)
    · exact zH_some (show (-1 : Int) ≤ y3.toInt ∧ y3.toInt ≤ 5 from by have q_2 : (y3).toInt = y3.toInt := (rfl : y3.toInt = _); omega)
    · refine zH_eqc (rfl : ((y2 >>> (y4 &&& 31)) &&& (1 : Int32)).toInt = _) (iL (1) (1) rfl) (fun c_3e c_3 => ?_) (fun c_3e c_3 => ?_)
      · unfold fX9_strongest_n27
        refine zH_eqc (iL (1) (1) rfl) (iL (0) (0) rfl) (fun c_4e c_4 => ?_) (fun c_4e c_4 => ?_)
        · refine zH_lt (fun x_5 e_6 => ?_)
          have q_7 : x_5.toInt = (y4.toInt + (1 : Int)) := (congrArg Int32.toInt e_6).trans (iA (rfl : y4.toInt = _) (iL (1) (1) rfl) (by omega) (by omega))
          exact zH_mono (ih y1 y2 y3 x_5 μ (by omega) (by omega) (by omega) (by omega) (by omega) (by omega) (by omega)) (fun r_9 p_8 => show (-1 : Int) ≤ r_9.toInt ∧ r_9.toInt ≤ 5 from by have q_10 : (-1 : Int) ≤ r_9.toInt ∧ r_9.toInt ≤ 5 := p_8; omega)
        · refine zH_eqc (rfl : y3.toInt = _) (iL (-1) (-1) rfl) (fun c_11e c_11 => ?_) (fun c_11e c_11 => ?_)
          · refine zH_lt (fun x_12 e_13 => ?_)
            have q_14 : x_12.toInt = (y4.toInt + (1 : Int)) := (congrArg Int32.toInt e_13).trans (iA (rfl : y4.toInt = _) (iL (1) (1) rfl) (by omega) (by omega))
            exact zH_mono (ih y1 y2 y4 x_12 μ (by omega) (by omega) (by omega) (by omega) (by omega) (by omega) (by omega)) (fun r_16 p_15 => show (-1 : Int) ≤ r_16.toInt ∧ r_16.toInt ≤ 5 from by have q_17 : (-1 : Int) ≤ r_16.toInt ∧ r_16.toInt ≤ 5 := p_15; omega)
          · refine zH_ck (zIn (iA (iM (rfl : y1.toInt = _) (iL (6) (6) rfl) (by omega) (by omega)) (rfl : y4.toInt = _) (by omega) (by omega)) (by omega) (by omega)) ?_
            refine zH_ck (zIn (iA (iM (rfl : y1.toInt = _) (iL (6) (6) rfl) (by omega) (by omega)) (rfl : y3.toInt = _) (by omega) (by omega)) (by omega) (by omega)) ?_
            refine zH_ltc (rfl : (μ (p0 + 10) (((y1 * (6 : Int32)) + y4)).toNatClampNeg).toInt = _) (rfl : (μ (p0 + 10) (((y1 * (6 : Int32)) + y3)).toNatClampNeg).toInt = _) (fun c_18 => ?_) (fun c_18 => ?_)
            · refine zH_lt (fun x_19 e_20 => ?_)
              have q_21 : x_19.toInt = (y4.toInt + (1 : Int)) := (congrArg Int32.toInt e_20).trans (iA (rfl : y4.toInt = _) (iL (1) (1) rfl) (by omega) (by omega))
              exact zH_mono (ih y1 y2 y3 x_19 μ (by omega) (by omega) (by omega) (by omega) (by omega) (by omega) (by omega)) (fun r_23 p_22 => show (-1 : Int) ≤ r_23.toInt ∧ r_23.toInt ≤ 5 from by have q_24 : (-1 : Int) ≤ r_23.toInt ∧ r_23.toInt ≤ 5 := p_22; omega)
            · refine zH_lt (fun x_25 e_26 => ?_)
              have q_27 : x_25.toInt = (y4.toInt + (1 : Int)) := (congrArg Int32.toInt e_26).trans (iA (rfl : y4.toInt = _) (iL (1) (1) rfl) (by omega) (by omega))
              exact zH_mono (ih y1 y2 y4 x_25 μ (by omega) (by omega) (by omega) (by omega) (by omega) (by omega) (by omega)) (fun r_29 p_28 => show (-1 : Int) ≤ r_29.toInt ∧ r_29.toInt ≤ 5 from by have q_30 : (-1 : Int) ≤ r_29.toInt ∧ r_29.toInt ≤ 5 := p_28; omega)
      · unfold fX9_strongest_n27
        refine zH_eqc (iL (0) (0) rfl) (iL (0) (0) rfl) (fun c_31e c_31 => ?_) (fun c_31e c_31 => ?_)
        · refine zH_lt (fun x_32 e_33 => ?_)
          have q_34 : x_32.toInt = (y4.toInt + (1 : Int)) := (congrArg Int32.toInt e_33).trans (iA (rfl : y4.toInt = _) (iL (1) (1) rfl) (by omega) (by omega))
          exact zH_mono (ih y1 y2 y3 x_32 μ (by omega) (by omega) (by omega) (by omega) (by omega) (by omega) (by omega)) (fun r_36 p_35 => show (-1 : Int) ≤ r_36.toInt ∧ r_36.toInt ≤ 5 from by have q_37 : (-1 : Int) ≤ r_36.toInt ∧ r_36.toInt ≤ 5 := p_35; omega)
        · refine zH_eqc (rfl : y3.toInt = _) (iL (-1) (-1) rfl) (fun c_38e c_38 => ?_) (fun c_38e c_38 => ?_)
          · refine zH_lt (fun x_39 e_40 => ?_)
            have q_41 : x_39.toInt = (y4.toInt + (1 : Int)) := (congrArg Int32.toInt e_40).trans (iA (rfl : y4.toInt = _) (iL (1) (1) rfl) (by omega) (by omega))
            exact zH_mono (ih y1 y2 y4 x_39 μ (by omega) (by omega) (by omega) (by omega) (by omega) (by omega) (by omega)) (fun r_43 p_42 => show (-1 : Int) ≤ r_43.toInt ∧ r_43.toInt ≤ 5 from by have q_44 : (-1 : Int) ≤ r_43.toInt ∧ r_43.toInt ≤ 5 := p_42; omega)
          · refine zH_ck (zIn (iA (iM (rfl : y1.toInt = _) (iL (6) (6) rfl) (by omega) (by omega)) (rfl : y4.toInt = _) (by omega) (by omega)) (by omega) (by omega)) ?_
            refine zH_ck (zIn (iA (iM (rfl : y1.toInt = _) (iL (6) (6) rfl) (by omega) (by omega)) (rfl : y3.toInt = _) (by omega) (by omega)) (by omega) (by omega)) ?_
            refine zH_ltc (rfl : (μ (p0 + 10) (((y1 * (6 : Int32)) + y4)).toNatClampNeg).toInt = _) (rfl : (μ (p0 + 10) (((y1 * (6 : Int32)) + y3)).toNatClampNeg).toInt = _) (fun c_45 => ?_) (fun c_45 => ?_)
            · refine zH_lt (fun x_46 e_47 => ?_)
              have q_48 : x_46.toInt = (y4.toInt + (1 : Int)) := (congrArg Int32.toInt e_47).trans (iA (rfl : y4.toInt = _) (iL (1) (1) rfl) (by omega) (by omega))
              exact zH_mono (ih y1 y2 y3 x_46 μ (by omega) (by omega) (by omega) (by omega) (by omega) (by omega) (by omega)) (fun r_50 p_49 => show (-1 : Int) ≤ r_50.toInt ∧ r_50.toInt ≤ 5 from by have q_51 : (-1 : Int) ≤ r_50.toInt ∧ r_50.toInt ≤ 5 := p_49; omega)
            · refine zH_lt (fun x_52 e_53 => ?_)
              have q_54 : x_52.toInt = (y4.toInt + (1 : Int)) := (congrArg Int32.toInt e_53).trans (iA (rfl : y4.toInt = _) (iL (1) (1) rfl) (by omega) (by omega))
              exact zH_mono (ih y1 y2 y4 x_52 μ (by omega) (by omega) (by omega) (by omega) (by omega) (by omega) (by omega)) (fun r_56 p_55 => show (-1 : Int) ≤ r_56.toInt ∧ r_56.toInt ≤ 5 from by have q_57 : (-1 : Int) ≤ r_56.toInt ∧ r_56.toInt ≤ 5 := p_55; omega)
theorem tX9_strongest  {p0 : Nat} {a1 : Int32} {a2 : Int32} {μ : gM}   (g0 : 0 ≤ a1.toInt) (g1 : a1.toInt ≤ 4) : zH (fX9_strongest p0 a1 a2 μ) (fun v => (-1 : Int) ≤ v.toInt ∧ v.toInt ≤ 5) := by
  unfold fX9_strongest
  have q_1 : (-1 : Int32).toInt = (-1 : Int) := (iL (-1) (-1) rfl)
  have q_2 : (0 : Int32).toInt = (0 : Int) := (iL (0) (0) rfl)
  exact zH_mono (tX9_strongest_l5 100000 a1 a2 (-1 : Int32) (0 : Int32) μ (by omega) (by omega) (by omega) (by omega) (by omega) (by omega) (by omega)) (fun r_4 p_3 => show (-1 : Int) ≤ r_4.toInt ∧ r_4.toInt ≤ 5 from by have q_5 : (-1 : Int) ≤ r_4.toInt ∧ r_4.toInt ≤ 5 := p_3; omega)
theorem tX9_holderBeside  {p0 : Nat} {a1 : Int32} {a2 : Int32} {μ : gM}   (g0 : 0 ≤ a1.toInt) (g1 : a1.toInt ≤ 4) : zH (fX9_holderBeside p0 a1 a2 μ) (fun v => (-1 : Int) ≤ v.toInt ∧ v.toInt ≤ 5) := by
  unfold fX9_holderBeside
  refine zH_ck (zIn (rfl : a1.toInt = _) (by omega) (by omega)) ?_
  refine zH_bd (tX9_beside) (fun x_1 p_2 => ?_)
  refine zH_bd (tX9_strongest (by omega) (by omega)) (fun x_3 p_4 => ?_)
  have q_5 : (-1 : Int) ≤ x_3.toInt ∧ x_3.toInt ≤ 5 := p_4
  exact zH_some (show (-1 : Int) ≤ x_3.toInt ∧ x_3.toInt ≤ 5 from by have q_6 : (x_3).toInt = x_3.toInt := (rfl : x_3.toInt = _); omega)
theorem tX9_clear_l104 {w : Bool} {L : Int32} {M : gM} {p0 : Nat} {p1 : Nat}  (hp0 : sS p0) : ∀ (n : Nat) (y2 : Int32) (μ : gM), J w L M μ → 0 ≤ y2.toInt → y2.toInt ≤ 30 → 30 - y2.toInt < (n : Int) → zH (fX9_clear_l104 p0 p1 n y2 μ) (fun ν => J w L M ν) := by
  intro n
  induction n with
  | zero =>
    intro y2 μ  h g0 g1 gm
    exact absurd gm (by omega)
  | succ n ih =>
    intro y2 μ  h g0 g1 gm
    rw [fX9_clear_l104]
    refine zH_lec (iL (30) (30) rfl) (rfl : y2.toInt = _) (fun c_1 => ?_) (fun c_1 => ?_)
    · exact zH_some h
    · refine zH_lec (iL (30) (30) rfl) (rfl : y2.toInt = _) (fun c_2 => ?_) (fun c_2 => ?_)
      · exact zH_some h
      · refine zH_ck (zIn (rfl : y2.toInt = _) (by omega) (by omega)) ?_
        refine zH_ck (zIn (rfl : y2.toInt = _) (by omega) (by omega)) ?_
        refine zH_lt (fun μ_3 e_4 => ?_)
        have h_5 : J w L M μ_3 := by rw [e_4]; exact J.upf h (a := (p0 + 9)) (k := (1, 30)) (hp0.1 9 (by decide)) (fx34 (by have := hp0.2.2; omega) (by have := hp0.2.1; omega)) (by decide) (by decide) (Or.inl (by have := hp0.2.2; omega)) rfl
        refine zH_ck (zIn (rfl : y2.toInt = _) (by omega) (by omega)) ?_
        refine zH_lt (fun μ_6 e_7 => ?_)
        have h_8 : J w L M μ_6 := by rw [e_7]; exact J.upf h_5 (a := (p0 + 12)) (k := (1, 30)) (hp0.1 12 (by decide)) (fx34 (by have := hp0.2.2; omega) (by have := hp0.2.1; omega)) (by decide) (by decide) (Or.inl (by have := hp0.2.2; omega)) rfl
        refine zH_ck (zIn (rfl : y2.toInt = _) (by omega) (by omega)) ?_
        refine zH_lt (fun μ_9 e_10 => ?_)
        have h_11 : J w L M μ_9 := by rw [e_10]; exact J.upf h_8 (a := (p0 + 13)) (k := (1, 30)) (hp0.1 13 (by decide)) (fx34 (by have := hp0.2.2; omega) (by have := hp0.2.1; omega)) (by decide) (by decide) (Or.inl (by have := hp0.2.2; omega)) rfl
        refine zH_lt (fun x_12 e_13 => ?_)
        have q_14 : x_12.toInt = (y2.toInt + (1 : Int)) := (congrArg Int32.toInt e_13).trans (iA (rfl : y2.toInt = _) (iL (1) (1) rfl) (by omega) (by omega))
        exact ih x_12 μ_9 h_11 (by omega) (by omega) (by omega)
theorem tX9_clear_l63 {w : Bool} {L : Int32} {M : gM} {p0 : Nat} {p1 : Nat}  (hp0 : sS p0) : ∀ (n : Nat) (y2 : Int32) (μ : gM), J w L M μ → 0 ≤ y2.toInt → y2.toInt ≤ 5 → 5 - y2.toInt < (n : Int) → zH (fX9_clear_l63 p0 p1 n y2 μ) (fun ν => J w L M ν) := by
  intro n
  induction n with
  | zero =>
    intro y2 μ  h g0 g1 gm
    exact absurd gm (by omega)
  | succ n ih =>
    intro y2 μ  h g0 g1 gm
    rw [fX9_clear_l63]
    refine zH_lec (iL (5) (5) rfl) (rfl : y2.toInt = _) (fun c_1 => ?_) (fun c_1 => ?_)
    · have q_2 : (0 : Int32).toInt = (0 : Int) := (iL (0) (0) rfl)
      exact zH_mono (tX9_clear_l104 hp0 100000 (0 : Int32) μ h (by omega) (by omega) (by omega)) (fun r_4 p_3 => p_3)
    · refine zH_ck (zIn (rfl : y2.toInt = _) (by omega) (by omega)) ?_
      refine zH_lt (fun μ_5 e_6 => ?_)
      have h_7 : J w L M μ_5 := by rw [e_6]; exact J.upf h (a := (p0 + 5)) (k := (1, 5)) (hp0.1 5 (by decide)) (fx34 (by have := hp0.2.2; omega) (by have := hp0.2.1; omega)) (by decide) (by decide) (Or.inl (by have := hp0.2.2; omega)) rfl
      refine zH_ck (zIn (rfl : y2.toInt = _) (by omega) (by omega)) ?_
      refine zH_lt (fun μ_8 e_9 => ?_)
      have h_10 : J w L M μ_8 := by rw [e_9]; exact J.upf h_7 (a := (p0 + 6)) (k := (1, 5)) (hp0.1 6 (by decide)) (fx34 (by have := hp0.2.2; omega) (by have := hp0.2.1; omega)) (by decide) (by decide) (Or.inl (by have := hp0.2.2; omega)) rfl
      refine zH_ck (zIn (rfl : y2.toInt = _) (by omega) (by omega)) ?_
      refine zH_lt (fun μ_11 e_12 => ?_)
      have h_13 : J w L M μ_11 := by rw [e_12]; exact J.upf h_10 (a := (p0 + 7)) (k := (1, 5)) (hp0.1 7 (by decide)) (fx34 (by have := hp0.2.2; omega) (by have := hp0.2.1; omega)) (by decide) (by decide) (Or.inl (by have := hp0.2.2; omega)) rfl
      refine zH_ck (zIn (rfl : y2.toInt = _) (by omega) (by omega)) ?_
      refine zH_lt (fun μ_14 e_15 => ?_)
      have h_16 : J w L M μ_14 := by rw [e_15]; exact J.upf h_13 (a := (p0 + 8)) (k := (1, 5)) (hp0.1 8 (by decide)) (fx34 (by have := hp0.2.2; omega) (by have := hp0.2.1; omega)) (by decide) (by decide) (Or.inl (by have := hp0.2.2; omega)) rfl
      refine zH_lt (fun x_17 e_18 => ?_)
      have q_19 : x_17.toInt = (y2.toInt + (1 : Int)) := (congrArg Int32.toInt e_18).trans (iA (rfl : y2.toInt = _) (iL (1) (1) rfl) (by omega) (by omega))
      exact ih x_17 μ_14 h_16 (by omega) (by omega) (by omega)
theorem tX9_clear {w : Bool} {L : Int32} {M : gM} {p0 : Nat} {p1 : Nat} {μ : gM} (hp0 : sS p0) (h : J w L M μ)  : zH (fX9_clear p0 p1 μ) (fun ν => J w L M ν) := by
  unfold fX9_clear
  refine zH_lt (fun μ_1 e_2 => ?_)
  have h_3 : J w L M μ_1 := by rw [e_2]; exact J.upf h (a := p0) (k := (0, 9)) (hp0.1 0 (by decide)) (fx34 (by have := hp0.2.2; omega) (by have := hp0.2.1; omega)) (by decide) (by decide) (Or.inl (by have := hp0.2.2; omega)) rfl
  refine zH_lt (fun μ_4 e_5 => ?_)
  have h_6 : J w L M μ_4 := by rw [e_5]; exact J.upf h_3 (a := p0) (k := (0, 9)) (hp0.1 0 (by decide)) (fx34 (by have := hp0.2.2; omega) (by have := hp0.2.1; omega)) (by decide) (by decide) (Or.inl (by have := hp0.2.2; omega)) rfl
  refine zH_lt (fun μ_7 e_8 => ?_)
  have h_9 : J w L M μ_7 := by rw [e_8]; exact J.upf h_6 (a := p0) (k := (0, 9)) (hp0.1 0 (by decide)) (fx34 (by have := hp0.2.2; omega) (by have := hp0.2.1; omega)) (by decide) (by decide) (Or.inl (by have := hp0.2.2; omega)) rfl
  refine zH_lt (fun μ_10 e_11 => ?_)
  have h_12 : J w L M μ_10 := by rw [e_11]; exact J.upf h_9 (a := p0) (k := (0, 9)) (hp0.1 0 (by decide)) (fx34 (by have := hp0.2.2; omega) (by have := hp0.2.1; omega)) (by decide) (by decide) (Or.inl (by have := hp0.2.2; omega)) rfl
  refine zH_lt (fun μ_13 e_14 => ?_)
  have h_15 : J w L M μ_13 := by rw [e_14]; exact J.upf h_12 (a := p0) (k := (0, 9)) (hp0.1 0 (by decide)) (fx34 (by have := hp0.2.2; omega) (by have := hp0.2.1; omega)) (by decide) (by decide) (Or.inl (by have := hp0.2.2; omega)) rfl
  refine zH_lt (fun μ_16 e_17 => ?_)
  have h_18 : J w L M μ_16 := by rw [e_17]; exact J.upf h_15 (a := p0) (k := (0, 9)) (hp0.1 0 (by decide)) (fx34 (by have := hp0.2.2; omega) (by have := hp0.2.1; omega)) (by decide) (by decide) (Or.inl (by have := hp0.2.2; omega)) rfl
  refine zH_lt (fun μ_19 e_20 => ?_)
  have h_21 : J w L M μ_19 := by rw [e_20]; exact J.upf h_18 (a := p0) (k := (0, 9)) (hp0.1 0 (by decide)) (fx34 (by have := hp0.2.2; omega) (by have := hp0.2.1; omega)) (by decide) (by decide) (Or.inl (by have := hp0.2.2; omega)) rfl
  refine zH_lt (fun μ_22 e_23 => ?_)
  have h_24 : J w L M μ_22 := by rw [e_23]; exact J.upf h_21 (a := p0) (k := (0, 9)) (hp0.1 0 (by decide)) (fx34 (by have := hp0.2.2; omega) (by have := hp0.2.1; omega)) (by decide) (by decide) (Or.inl (by have := hp0.2.2; omega)) rfl
  have q_28 : (0 : Int32).toInt = (0 : Int) := (iL (0) (0) rfl)
  refine zH_lt (fun μ_25 e_26 => ?_)
  have h_27 : J w L M μ_25 := by rw [e_26]; exact J.up h_24 (a := p0) (k := (0, 9)) (hp0.1 0 (by decide)) (fx34 (by have := hp0.2.2; omega) (by have := hp0.2.1; omega)) (by decide) (by decide) (Or.inl (by have := hp0.2.2; omega)) (show (0 : Int) ≤ (0 : Int32).toInt ∧ (0 : Int32).toInt ≤ 2147483647 from by have q_29 : (0 : Int32).toInt = (0 : Int) := (iL (0) (0) rfl); omega)
  refine zH_lt (fun μ_30 e_31 => ?_)
  have h_32 : J w L M μ_30 := by rw [e_31]; exact J.pz h_27 (a := (p0 + 1)) (hp0.1 1 (by decide)) (fx34 (by have := hp0.2.2; omega) (by have := hp0.2.1; omega))
  refine zH_lt (fun μ_33 e_34 => ?_)
  have h_35 : J w L M μ_33 := by rw [e_34]; exact J.up h_32 (a := (p0 + 3)) (k := (0, 0)) (hp0.1 3 (by decide)) (fx34 (by have := hp0.2.2; omega) (by have := hp0.2.1; omega)) (by decide) (by decide) (Or.inl (by have := hp0.2.2; omega)) (show (0 : Int) ≤ (0 : Int32).toInt ∧ (0 : Int32).toInt ≤ 60 from by have q_36 : (0 : Int32).toInt = (0 : Int) := (iL (0) (0) rfl); omega)
  exact zH_mono (tX9_clear_l63 hp0 100000 (0 : Int32) μ_33 h_35 (by omega) (by omega) (by omega)) (fun r_38 p_37 => p_37)
theorem tX9_isUp  {p0 : Nat} {a1 : Int32} {μ : gM}    : zH (fX9_isUp p0 a1 μ) (fun v => v.toInt = 0 ∨ v.toInt = 1) := by
  unfold fX9_isUp
  refine zH_eqc (rfl : (((μ p0 1) >>> (a1 &&& 31)) &&& (1 : Int32)).toInt = _) (iL (1) (1) rfl) (fun c_1e c_1 => ?_) (fun c_1e c_1 => ?_)
  · have q_2 : (1 : Int32).toInt = (1 : Int) := (iL (1) (1) rfl)
    exact zH_some (show (1 : Int32).toInt = 0 ∨ (1 : Int32).toInt = 1 from by have q_3 : (1 : Int32).toInt = (1 : Int) := (iL (1) (1) rfl); omega)
  · have q_4 : (0 : Int32).toInt = (0 : Int) := (iL (0) (0) rfl)
    exact zH_some (show (0 : Int32).toInt = 0 ∨ (0 : Int32).toInt = 1 from by have q_5 : (0 : Int32).toInt = (0 : Int) := (iL (0) (0) rfl); omega)
theorem tX9_isCut  {p0 : Nat} {a1 : Int32} {μ : gM}    : zH (fX9_isCut p0 a1 μ) (fun v => v.toInt = 0 ∨ v.toInt = 1) := by
  unfold fX9_isCut
  refine zH_eqc (rfl : (((μ p0 2) >>> (a1 &&& 31)) &&& (1 : Int32)).toInt = _) (iL (1) (1) rfl) (fun c_1e c_1 => ?_) (fun c_1e c_1 => ?_)
  · have q_2 : (1 : Int32).toInt = (1 : Int) := (iL (1) (1) rfl)
    exact zH_some (show (1 : Int32).toInt = 0 ∨ (1 : Int32).toInt = 1 from by have q_3 : (1 : Int32).toInt = (1 : Int) := (iL (1) (1) rfl); omega)
  · have q_4 : (0 : Int32).toInt = (0 : Int) := (iL (0) (0) rfl)
    exact zH_some (show (0 : Int32).toInt = 0 ∨ (0 : Int32).toInt = 1 from by have q_5 : (0 : Int32).toInt = (0 : Int) := (iL (0) (0) rfl); omega)
theorem tX9_howIs  {p0 : Nat} {a1 : Int32} {a2 : Int32} {μ : gM}   (g0 : 0 ≤ a1.toInt) (g1 : a1.toInt ≤ 4) : zH (fX9_howIs p0 a1 a2 μ) (fun _ => True) := by
  unfold fX9_howIs
  refine zH_bd (tX9_isUp) (fun x_1 p_2 => ?_)
  have q_3 : x_1.toInt = 0 ∨ x_1.toInt = 1 := p_2
  refine zH_eqc (rfl : x_1.toInt = _) (iL (0) (0) rfl) (fun c_4e c_4 => ?_) (fun c_4e c_4 => ?_)
  · exact zH_some trivial
  · refine zH_bd (tX9_isHeld (by omega) (by omega)) (fun x_5 p_6 => ?_)
    have q_7 : x_5.toInt = 0 ∨ x_5.toInt = 1 := p_6
    refine zH_eqc (rfl : x_5.toInt = _) (iL (0) (0) rfl) (fun c_8e c_8 => ?_) (fun c_8e c_8 => ?_)
    · exact zH_some trivial
    · exact zH_some trivial
theorem tX8_neediest_l11     : ∀ (n : Nat) (y1 : Int32) (y2 : Int32) (y3 : Int32) (y4 : Int32) (y5 : Int32) (y6 : Int32) (μ : gM), 0 ≤ y1.toInt → y1.toInt ≤ 4 → (-1 : Int) ≤ y3.toInt → y3.toInt ≤ 5 → 0 ≤ y6.toInt → y6.toInt ≤ 6 → 6 - y6.toInt < (n : Int) → zH (fX8_neediest_l11  n y1 y2 y3 y4 y5 y6 μ) (fun v => (-1 : Int) ≤ v.toInt ∧ v.toInt ≤ 5) := by
  intro n
  induction n with
  | zero =>
    intro y1 y2 y3 y4 y5 y6 μ  g0 g1 g2 g3 g4 g5 gm
    exact absurd gm (by omega)
  | succ n ih =>
    intro y1 y2 y3 y4 y5 y6 μ  g0 g1 g2 g3 g4 g5 gm
    rw [fX8_neediest_l11]
    refine zH_lec (iL (6) (6) rfl) (rfl : y6.toInt = _) (fun c_1 => ?_) (fun c_1 => ?_)
    · exact zH_some (show (-1 : Int) ≤ y3.toInt ∧ y3.toInt ≤ 5 from by have q_2 : (y3).toInt = y3.toInt := (rfl : y3.toInt = _); omega)
    · refine zH_eqc (rfl : ((y2 >>> (y6 &&& 31)) &&& (1 : Int32)).toInt = _) (iL (1) (1) rfl) (fun c_3e c_3 => ?_) (fun c_3e c_3 => ?_)
      · refine zH_ck (zIn (iA (iM (rfl : y1.toInt = _) (iL (6) (6) rfl) (by omega) (by omega)) (rfl : y6.toInt = _) (by omega) (by omega)) (by omega) (by omega)) ?_
        unfold fX8_neediest_n47
        refine zH_ck (zIn (rfl : y6.toInt = _) (by omega) (by omega)) ?_
        refine zH_lt (fun x_4 e_5 => ?_)
        refine zH_lec (rfl : ((μ 13 (((y1 * (6 : Int32)) + y6)).toNatClampNeg) * y5).toInt = _) (rfl : (y4 * x_4).toInt = _) (fun c_6 => ?_) (fun c_6 => ?_)
        · refine zH_lt (fun x_7 e_8 => ?_)
          have q_9 : x_7.toInt = (y6.toInt + (1 : Int)) := (congrArg Int32.toInt e_8).trans (iA (rfl : y6.toInt = _) (iL (1) (1) rfl) (by omega) (by omega))
          exact zH_mono (ih y1 y2 y3 y4 y5 x_7 μ (by omega) (by omega) (by omega) (by omega) (by omega) (by omega) (by omega)) (fun r_11 p_10 => show (-1 : Int) ≤ r_11.toInt ∧ r_11.toInt ≤ 5 from by have q_12 : (-1 : Int) ≤ r_11.toInt ∧ r_11.toInt ≤ 5 := p_10; omega)
        · refine zH_lt (fun x_13 e_14 => ?_)
          have q_15 : x_13.toInt = (y6.toInt + (1 : Int)) := (congrArg Int32.toInt e_14).trans (iA (rfl : y6.toInt = _) (iL (1) (1) rfl) (by omega) (by omega))
          exact zH_mono (ih y1 y2 y6 (μ 13 (((y1 * (6 : Int32)) + y6)).toNatClampNeg) x_4 x_13 μ (by omega) (by omega) (by omega) (by omega) (by omega) (by omega) (by omega)) (fun r_17 p_16 => show (-1 : Int) ≤ r_17.toInt ∧ r_17.toInt ≤ 5 from by have q_18 : (-1 : Int) ≤ r_17.toInt ∧ r_17.toInt ≤ 5 := p_16; omega)
      · unfold fX8_neediest_n47
        refine zH_ck (zIn (rfl : y6.toInt = _) (by omega) (by omega)) ?_
        refine zH_lt (fun x_19 e_20 => ?_)
        refine zH_lec (rfl : ((0 : Int32) * y5).toInt = _) (rfl : (y4 * x_19).toInt = _) (fun c_21 => ?_) (fun c_21 => ?_)
        · refine zH_lt (fun x_22 e_23 => ?_)
          have q_24 : x_22.toInt = (y6.toInt + (1 : Int)) := (congrArg Int32.toInt e_23).trans (iA (rfl : y6.toInt = _) (iL (1) (1) rfl) (by omega) (by omega))
          exact zH_mono (ih y1 y2 y3 y4 y5 x_22 μ (by omega) (by omega) (by omega) (by omega) (by omega) (by omega) (by omega)) (fun r_26 p_25 => show (-1 : Int) ≤ r_26.toInt ∧ r_26.toInt ≤ 5 from by have q_27 : (-1 : Int) ≤ r_26.toInt ∧ r_26.toInt ≤ 5 := p_25; omega)
        · refine zH_lt (fun x_28 e_29 => ?_)
          have q_30 : x_28.toInt = (y6.toInt + (1 : Int)) := (congrArg Int32.toInt e_29).trans (iA (rfl : y6.toInt = _) (iL (1) (1) rfl) (by omega) (by omega))
          have q_31 : (0 : Int32).toInt = (0 : Int) := (iL (0) (0) rfl)
          exact zH_mono (ih y1 y2 y6 (0 : Int32) x_19 x_28 μ (by omega) (by omega) (by omega) (by omega) (by omega) (by omega) (by omega)) (fun r_33 p_32 => show (-1 : Int) ≤ r_33.toInt ∧ r_33.toInt ≤ 5 from by have q_34 : (-1 : Int) ≤ r_33.toInt ∧ r_33.toInt ≤ 5 := p_32; omega)
theorem tX8_neediest  {a1 : Int32} {a2 : Int32} {μ : gM}   (g0 : 0 ≤ a1.toInt) (g1 : a1.toInt ≤ 4) : zH (fX8_neediest a1 a2 μ) (fun v => (-1 : Int) ≤ v.toInt ∧ v.toInt ≤ 5) := by
  unfold fX8_neediest
  have q_1 : (-1 : Int32).toInt = (-1 : Int) := (iL (-1) (-1) rfl)
  have q_2 : (0 : Int32).toInt = (0 : Int) := (iL (0) (0) rfl)
  have q_3 : (1 : Int32).toInt = (1 : Int) := (iL (1) (1) rfl)
  exact zH_mono (tX8_neediest_l11 100000 a1 a2 (-1 : Int32) (0 : Int32) (1 : Int32) (0 : Int32) μ (by omega) (by omega) (by omega) (by omega) (by omega) (by omega) (by omega)) (fun r_5 p_4 => show (-1 : Int) ≤ r_5.toInt ∧ r_5.toInt ≤ 5 from by have q_6 : (-1 : Int) ≤ r_5.toInt ∧ r_5.toInt ≤ 5 := p_4; omega)
theorem tX8_lay_l54 {w : Bool} {L : Int32} {M : gM}    : ∀ (n : Nat) (y1 : Int32) (y3 : Int32) (y4 : Int32) (μ : gM), J w L M μ → 0 ≤ y1.toInt → y1.toInt ≤ 4 → 0 ≤ y4.toInt → y4.toInt ≤ 8 → 8 - y4.toInt < (n : Int) → zH (fX8_lay_l54  n y1 y3 y4 μ) (fun ν => J w L M ν ∧ ((ν 10 y1.toNatClampNeg).toInt = (μ 10 y1.toNatClampNeg).toInt)) := by
  intro n
  induction n with
  | zero =>
    intro y1 y3 y4 μ  h g0 g1 g2 g3 gm
    exact absurd gm (by omega)
  | succ n ih =>
    intro y1 y3 y4 μ  h g0 g1 g2 g3 gm
    rw [fX8_lay_l54]
    refine zH_lec (iL (8) (8) rfl) (rfl : y4.toInt = _) (fun c_1 => ?_) (fun c_1 => ?_)
    · exact zH_some ⟨h, show (μ 10 y1.toNatClampNeg).toInt = (μ 10 y1.toNatClampNeg).toInt from by omega⟩
    · refine zH_ck (zIn (rfl : y1.toInt = _) (by omega) (by omega)) ?_
      refine zH_lec (rfl : (μ 10 (y1).toNatClampNeg).toInt = _) (rfl : y4.toInt = _) (fun c_2 => ?_) (fun c_2 => ?_)
      · unfold fX8_lay_n85
        refine zH_ck (zIn (rfl : y4.toInt = _) (by omega) (by omega)) ?_
        refine zH_lt (fun μ_3 e_4 => ?_)
        have h_5 : J w L M μ_3 := by rw [e_4]; exact J.upf h (a := 265) (k := (1, 8)) rfl (fx34 (by decide) (by decide)) (by decide) (by decide) (Or.inl (by decide)) rfl
        have q_6 : (μ_3 10 y1.toNatClampNeg).toInt = (μ 10 y1.toNatClampNeg).toInt := by rw [e_4, zUp_ne _ (by omega)]
        refine zH_eqc (iL (-1) (-1) rfl) (iL (-1) (-1) rfl) (fun c_7e c_7 => ?_) (fun c_7e c_7 => ?_)
        · refine zH_lt (fun x_8 e_9 => ?_)
          have q_10 : x_8.toInt = (y4.toInt + (1 : Int)) := (congrArg Int32.toInt e_9).trans (iA (rfl : y4.toInt = _) (iL (1) (1) rfl) (by omega) (by omega))
          exact zH_mono (ih y1 y3 x_8 μ_3 h_5 (by omega) (by omega) (by omega) (by omega) (by omega)) (fun r_12 p_11 => ⟨p_11.1, show (r_12 10 y1.toNatClampNeg).toInt = (μ 10 y1.toNatClampNeg).toInt from by have q_13 : (r_12 10 y1.toNatClampNeg).toInt = (μ_3 10 y1.toNatClampNeg).toInt := p_11.2; omega⟩)
        · refine zH_ck (zIn (iL (-1) (-1) rfl) (by omega) (by omega)) ?_
          refine zH_ck (zIn (iL (-1) (-1) rfl) (by omega) (by omega)) ?_
          refine zH_lt (fun μ_14 e_15 => ?_)
          have h_16 : J w L M μ_14 := by rw [e_15]; exact J.upf h_5 (a := 266) (k := (1, 6)) rfl (fx34 (by decide) (by decide)) (by decide) (by decide) (Or.inl (by decide)) rfl
          have q_17 : (μ_14 10 y1.toNatClampNeg).toInt = (μ_3 10 y1.toNatClampNeg).toInt := by rw [e_15, zUp_ne _ (by omega)]
          refine zH_lt (fun x_18 e_19 => ?_)
          have q_20 : x_18.toInt = (y4.toInt + (1 : Int)) := (congrArg Int32.toInt e_19).trans (iA (rfl : y4.toInt = _) (iL (1) (1) rfl) (by omega) (by omega))
          exact zH_mono (ih y1 y3 x_18 μ_14 h_16 (by omega) (by omega) (by omega) (by omega) (by omega)) (fun r_22 p_21 => ⟨p_21.1, show (r_22 10 y1.toNatClampNeg).toInt = (μ 10 y1.toNatClampNeg).toInt from by have q_23 : (r_22 10 y1.toNatClampNeg).toInt = (μ_14 10 y1.toNatClampNeg).toInt := p_21.2; omega⟩)
      · refine zH_bd (tX8_neediest (by omega) (by omega)) (fun x_24 p_25 => ?_)
        have q_26 : (-1 : Int) ≤ x_24.toInt ∧ x_24.toInt ≤ 5 := p_25
        unfold fX8_lay_n85
        refine zH_ck (zIn (rfl : y4.toInt = _) (by omega) (by omega)) ?_
        refine zH_lt (fun μ_27 e_28 => ?_)
        have h_29 : J w L M μ_27 := by rw [e_28]; exact J.upf h (a := 265) (k := (1, 8)) rfl (fx34 (by decide) (by decide)) (by decide) (by decide) (Or.inl (by decide)) rfl
        have q_30 : (μ_27 10 y1.toNatClampNeg).toInt = (μ 10 y1.toNatClampNeg).toInt := by rw [e_28, zUp_ne _ (by omega)]
        refine zH_eqc (rfl : x_24.toInt = _) (iL (-1) (-1) rfl) (fun c_31e c_31 => ?_) (fun c_31e c_31 => ?_)
        · refine zH_lt (fun x_32 e_33 => ?_)
          have q_34 : x_32.toInt = (y4.toInt + (1 : Int)) := (congrArg Int32.toInt e_33).trans (iA (rfl : y4.toInt = _) (iL (1) (1) rfl) (by omega) (by omega))
          exact zH_mono (ih y1 y3 x_32 μ_27 h_29 (by omega) (by omega) (by omega) (by omega) (by omega)) (fun r_36 p_35 => ⟨p_35.1, show (r_36 10 y1.toNatClampNeg).toInt = (μ 10 y1.toNatClampNeg).toInt from by have q_37 : (r_36 10 y1.toNatClampNeg).toInt = (μ_27 10 y1.toNatClampNeg).toInt := p_35.2; omega⟩)
        · refine zH_ck (zIn (rfl : x_24.toInt = _) (by omega) (by omega)) ?_
          refine zH_ck (zIn (rfl : x_24.toInt = _) (by omega) (by omega)) ?_
          refine zH_lt (fun μ_38 e_39 => ?_)
          have h_40 : J w L M μ_38 := by rw [e_39]; exact J.upf h_29 (a := 266) (k := (1, 6)) rfl (fx34 (by decide) (by decide)) (by decide) (by decide) (Or.inl (by decide)) rfl
          have q_41 : (μ_38 10 y1.toNatClampNeg).toInt = (μ_27 10 y1.toNatClampNeg).toInt := by rw [e_39, zUp_ne _ (by omega)]
          refine zH_lt (fun x_42 e_43 => ?_)
          have q_44 : x_42.toInt = (y4.toInt + (1 : Int)) := (congrArg Int32.toInt e_43).trans (iA (rfl : y4.toInt = _) (iL (1) (1) rfl) (by omega) (by omega))
          exact zH_mono (ih y1 y3 x_42 μ_38 h_40 (by omega) (by omega) (by omega) (by omega) (by omega)) (fun r_46 p_45 => ⟨p_45.1, show (r_46 10 y1.toNatClampNeg).toInt = (μ 10 y1.toNatClampNeg).toInt from by have q_47 : (r_46 10 y1.toNatClampNeg).toInt = (μ_38 10 y1.toNatClampNeg).toInt := p_45.2; omega⟩)
theorem tX8_lay_l30 {w : Bool} {L : Int32} {M : gM}    : ∀ (n : Nat) (y1 : Int32) (y3 : Int32) (y4 : Int32) (μ : gM), J w L M μ → 0 ≤ y1.toInt → y1.toInt ≤ 4 → 0 ≤ y4.toInt → y4.toInt ≤ 6 → 6 - y4.toInt < (n : Int) → zH (fX8_lay_l30  n y1 y3 y4 μ) (fun ν => J w L M ν ∧ ((ν 10 y1.toNatClampNeg).toInt = (μ 10 y1.toNatClampNeg).toInt)) := by
  intro n
  induction n with
  | zero =>
    intro y1 y3 y4 μ  h g0 g1 g2 g3 gm
    exact absurd gm (by omega)
  | succ n ih =>
    intro y1 y3 y4 μ  h g0 g1 g2 g3 gm
    rw [fX8_lay_l30]
    refine zH_lec (iL (6) (6) rfl) (rfl : y4.toInt = _) (fun c_1 => ?_) (fun c_1 => ?_)
    · have q_2 : (0 : Int32).toInt = (0 : Int) := (iL (0) (0) rfl)
      exact zH_mono (tX8_lay_l54 100000 y1 y3 (0 : Int32) μ h (by omega) (by omega) (by omega) (by omega) (by omega)) (fun r_4 p_3 => ⟨p_3.1, show (r_4 10 y1.toNatClampNeg).toInt = (μ 10 y1.toNatClampNeg).toInt from by have q_5 : (r_4 10 y1.toNatClampNeg).toInt = (μ 10 y1.toNatClampNeg).toInt := p_3.2; omega⟩)
    · refine zH_ck (zIn (rfl : y4.toInt = _) (by omega) (by omega)) ?_
      refine zH_lt (fun μ_6 e_7 => ?_)
      have h_8 : J w L M μ_6 := by rw [e_7]; exact J.upf h (a := 266) (k := (1, 6)) rfl (fx34 (by decide) (by decide)) (by decide) (by decide) (Or.inl (by decide)) rfl
      have q_9 : (μ_6 10 y1.toNatClampNeg).toInt = (μ 10 y1.toNatClampNeg).toInt := by rw [e_7, zUp_ne _ (by omega)]
      refine zH_lt (fun x_10 e_11 => ?_)
      have q_12 : x_10.toInt = (y4.toInt + (1 : Int)) := (congrArg Int32.toInt e_11).trans (iA (rfl : y4.toInt = _) (iL (1) (1) rfl) (by omega) (by omega))
      exact zH_mono (ih y1 y3 x_10 μ_6 h_8 (by omega) (by omega) (by omega) (by omega) (by omega)) (fun r_14 p_13 => ⟨p_13.1, show (r_14 10 y1.toNatClampNeg).toInt = (μ 10 y1.toNatClampNeg).toInt from by have q_15 : (r_14 10 y1.toNatClampNeg).toInt = (μ_6 10 y1.toNatClampNeg).toInt := p_13.2; omega⟩)
theorem tX8_lay {w : Bool} {L : Int32} {M : gM} {a1 : Int32} {a2 : Int32} {μ : gM}  (h : J w L M μ) (g0 : 0 ≤ a1.toInt) (g1 : a1.toInt ≤ 4) : zH (fX8_lay a1 a2 μ) (fun ν => J w L M ν ∧ ((ν 10 a1.toNatClampNeg).toInt = (μ 10 a1.toNatClampNeg).toInt)) := by
  unfold fX8_lay
  refine zH_ck (zIn (rfl : a1.toInt = _) (by omega) (by omega)) ?_
  refine zH_bd (tX9_beside) (fun x_1 p_2 => ?_)
  refine zH_lt (fun x_3 e_4 => ?_)
  have q_5 : (0 : Int32).toInt = (0 : Int) := (iL (0) (0) rfl)
  exact zH_mono (tX8_lay_l30 100000 a1 x_3 (0 : Int32) μ h (by omega) (by omega) (by omega) (by omega) (by omega)) (fun r_7 p_6 => ⟨p_6.1, show (r_7 10 a1.toNatClampNeg).toInt = (μ 10 a1.toNatClampNeg).toInt from by have q_8 : (r_7 10 a1.toNatClampNeg).toInt = (μ 10 a1.toNatClampNeg).toInt := p_6.2; omega⟩)
theorem tX8_ownerOf  {a1 : Int32} {μ : gM}    : zH (fX8_ownerOf a1 μ) (fun _ => True) := by
  unfold fX8_ownerOf
  refine zH_ltc (rfl : a1.toInt = _) (iL (0) (0) rfl) (fun c_1 => ?_) (fun c_1 => ?_)
  · exact zH_some trivial
  · refine zH_lec (iL (8) (8) rfl) (rfl : a1.toInt = _) (fun c_2 => ?_) (fun c_2 => ?_)
    · exact zH_some trivial
    · refine zH_ck (zIn (rfl : a1.toInt = _) (by omega) (by omega)) ?_
      exact zH_some trivial
theorem tX8_countHosts_l25     : ∀ (n : Nat) (y2 : Int32) (y3 : Int32) (y4 : Int32) (y5 : Int32) (y6 : Int32) (μ : gM), 0 ≤ y6.toInt → y6.toInt ≤ 8 → 1 ≤ y4.toInt → 8 - y6.toInt < (n : Int) → zH (fX8_countHosts_l25  n y2 y3 y4 y5 y6 μ) (fun _ => True) := by
  intro n
  induction n with
  | zero =>
    intro y2 y3 y4 y5 y6 μ  g0 g1 g2 gm
    exact absurd gm (by omega)
  | succ n ih =>
    intro y2 y3 y4 y5 y6 μ  g0 g1 g2 gm
    rw [fX8_countHosts_l25]
    refine zH_lec (rfl : y4.toInt = _) (rfl : y6.toInt = _) (fun c_1 => ?_) (fun c_1 => ?_)
    · exact zH_some trivial
    · refine zH_lec (iL (8) (8) rfl) (rfl : y6.toInt = _) (fun c_2 => ?_) (fun c_2 => ?_)
      · exact zH_some trivial
      · refine zH_ck (zIn (rfl : y6.toInt = _) (by omega) (by omega)) ?_
        refine zH_eqc (rfl : (μ 265 (y6).toNatClampNeg).toInt = _) (rfl : y2.toInt = _) (fun c_3e c_3 => ?_) (fun c_3e c_3 => ?_)
        · refine zH_ck (zNz (by omega)) ?_
          refine zH_ck (zNz (by omega)) ?_
          refine zH_lec (rfl : (y3 - y3 / y4 * y4).toInt = _) (rfl : y6.toInt = _) (fun c_4 => ?_) (fun c_4 => ?_)
          · refine zH_lt (fun x_5 e_6 => ?_)
            refine zH_lt (fun x_7 e_8 => ?_)
            have q_9 : x_7.toInt = (y6.toInt + (1 : Int)) := (congrArg Int32.toInt e_8).trans (iA (rfl : y6.toInt = _) (iL (1) (1) rfl) (by omega) (by omega))
            exact ih y2 y3 y4 x_5 x_7 μ (by omega) (by omega) (by omega) (by omega)
          · refine zH_lt (fun x_10 e_11 => ?_)
            refine zH_lt (fun x_12 e_13 => ?_)
            have q_14 : x_12.toInt = (y6.toInt + (1 : Int)) := (congrArg Int32.toInt e_13).trans (iA (rfl : y6.toInt = _) (iL (1) (1) rfl) (by omega) (by omega))
            exact ih y2 y3 y4 x_10 x_12 μ (by omega) (by omega) (by omega) (by omega)
        · refine zH_lt (fun x_15 e_16 => ?_)
          have q_17 : x_15.toInt = (y6.toInt + (1 : Int)) := (congrArg Int32.toInt e_16).trans (iA (rfl : y6.toInt = _) (iL (1) (1) rfl) (by omega) (by omega))
          exact ih y2 y3 y4 y5 x_15 μ (by omega) (by omega) (by omega) (by omega)
theorem tX8_countHosts  {a1 : Int32} {a2 : Int32} {a3 : Int32} {μ : gM}   (g0 : 0 ≤ a1.toInt) (g1 : a1.toInt ≤ 4) : zH (fX8_countHosts a1 a2 a3 μ) (fun _ => True) := by
  unfold fX8_countHosts
  refine zH_ck (zIn (rfl : a1.toInt = _) (by omega) (by omega)) ?_
  refine zH_lt (fun x_1 e_2 => ?_)
  refine zH_lec (iL (1) (1) rfl) (rfl : x_1.toInt = _) (fun c_3 => ?_) (fun c_3 => ?_)
  · have q_4 : (0 : Int32).toInt = (0 : Int) := (iL (0) (0) rfl)
    exact zH_mono (tX8_countHosts_l25 100000 a2 a3 x_1 (0 : Int32) (0 : Int32) μ (by omega) (by omega) (by omega) (by omega)) (fun _ _ => trivial)
  · exact zH_some trivial
theorem tX4_forgetAll {w : Bool} {L : Int32} {M : gM} {μ : gM}  (h : J w L M μ)  : zH (fX4_forgetAll μ) (fun ν => J w L M ν) := by
  unfold fX4_forgetAll
  refine zH_lt (fun μ_1 e_2 => ?_)
  have h_3 : J w L M μ_1 := by rw [e_2]; exact J.upf h (a := 49) (k := (0, 4)) rfl (fx34 (by decide) (by decide)) (by decide) (by decide) (Or.inl (by decide)) rfl
  refine zH_lt (fun μ_4 e_5 => ?_)
  have h_6 : J w L M μ_4 := by rw [e_5]; exact J.upf h_3 (a := 49) (k := (0, 4)) rfl (fx34 (by decide) (by decide)) (by decide) (by decide) (Or.inl (by decide)) rfl
  exact zH_some h_6
theorem tX4_save {w : Bool} {L : Int32} {M : gM} {p1 : Nat} {μ : gM} (hp1 : sS p1) (h : J w L M μ)  : zH (fX4_save p1 μ) (fun ν => J w L M ν) := by
  unfold fX4_save
  have f_2 : (0 : Int) ≤ (μ 49 3).toInt ∧ (μ 49 3).toInt ≤ 11 := h.rd (a := 49) rfl (by decide) 3
  refine zH_lec (iL (12) (12) rfl) (iA (rfl : (μ 49 3).toInt = _) (iL (1) (1) rfl) (by omega) (by omega)) (fun c_1 => ?_) (fun c_1 => ?_)
  · unfold fX4_save_n22
    have q_6 : (0 : Int32).toInt = (0 : Int) := (iL (0) (0) rfl)
    refine zH_lt (fun μ_3 e_4 => ?_)
    have h_5 : J w L M μ_3 := by rw [e_4]; exact J.up h (a := 49) (k := (0, 4)) rfl (fx34 (by decide) (by decide)) (by decide) (by decide) (Or.inl (by decide)) (show (0 : Int) ≤ (0 : Int32).toInt ∧ (0 : Int32).toInt ≤ 11 from by have q_7 : (0 : Int32).toInt = (0 : Int) := (iL (0) (0) rfl); omega)
    refine zH_lt (fun μ_8 e_9 => ?_)
    have h_10 : J w L M μ_8 := by rw [e_9]; exact J.upf h_5 (a := 49) (k := (0, 4)) rfl (fx34 (by decide) (by decide)) (by decide) (by decide) (Or.inl (by decide)) rfl
    have f_11 : (0 : Int) ≤ (μ_8 49 3).toInt ∧ (μ_8 49 3).toInt ≤ 11 := h_10.rd (a := 49) rfl (by decide) 3
    refine zH_ck (zIn (rfl : (μ_8 49 3).toInt = _) (by omega) (by omega)) ?_
    refine zH_bd (tX9_copyFrom (sS_act (show (μ_8 49 3).toInt.toNat < 12 by omega)) hp1 h_10) (fun μ_12 p_13 => ?_)
    have h_14 : J w L M μ_12 := p_13
    exact zH_some h_14
  · unfold fX4_save_n22
    have q_18 : ((μ 49 3) + (1 : Int32)).toInt = ((μ 49 3).toInt + (1 : Int)) := (iA (rfl : (μ 49 3).toInt = _) (iL (1) (1) rfl) (by omega) (by omega))
    refine zH_lt (fun μ_15 e_16 => ?_)
    have h_17 : J w L M μ_15 := by rw [e_16]; exact J.up h (a := 49) (k := (0, 4)) rfl (fx34 (by decide) (by decide)) (by decide) (by decide) (Or.inl (by decide)) (show (0 : Int) ≤ ((μ 49 3) + (1 : Int32)).toInt ∧ ((μ 49 3) + (1 : Int32)).toInt ≤ 11 from by have q_19 : ((μ 49 3) + (1 : Int32)).toInt = ((μ 49 3).toInt + (1 : Int)) := (iA (rfl : (μ 49 3).toInt = _) (iL (1) (1) rfl) (by omega) (by omega)); omega)
    refine zH_lt (fun μ_20 e_21 => ?_)
    have h_22 : J w L M μ_20 := by rw [e_21]; exact J.upf h_17 (a := 49) (k := (0, 4)) rfl (fx34 (by decide) (by decide)) (by decide) (by decide) (Or.inl (by decide)) rfl
    have f_23 : (0 : Int) ≤ (μ_20 49 3).toInt ∧ (μ_20 49 3).toInt ≤ 11 := h_22.rd (a := 49) rfl (by decide) 3
    refine zH_ck (zIn (rfl : (μ_20 49 3).toInt = _) (by omega) (by omega)) ?_
    refine zH_bd (tX9_copyFrom (sS_act (show (μ_20 49 3).toInt.toNat < 12 by omega)) hp1 h_22) (fun μ_24 p_25 => ?_)
    have h_26 : J w L M μ_24 := p_25
    exact zH_some h_26
theorem tX4_restore {w : Bool} {L : Int32} {M : gM} {p1 : Nat} {μ : gM} (hp1 : sS p1) (h : J w L M μ)  : zH (fX4_restore p1 μ) (fun r => J w L M r.2 ∧ (r.1.toInt = 0 ∨ r.1.toInt = 1)) := by
  unfold fX4_restore
  refine zH_eqc (rfl : (μ 49 2).toInt = _) (iL (0) (0) rfl) (fun c_1e c_1 => ?_) (fun c_1e c_1 => ?_)
  · have q_2 : (0 : Int32).toInt = (0 : Int) := (iL (0) (0) rfl)
    exact zH_some ⟨h, show (0 : Int32).toInt = 0 ∨ (0 : Int32).toInt = 1 from by have q_3 : ((0 : Int32)).toInt = (0 : Int) := (iL (0) (0) rfl); omega⟩
  · have f_4 : (0 : Int) ≤ (μ 49 3).toInt ∧ (μ 49 3).toInt ≤ 11 := h.rd (a := 49) rfl (by decide) 3
    refine zH_ck (zIn (rfl : (μ 49 3).toInt = _) (by omega) (by omega)) ?_
    refine zH_bd (tX9_copyFrom hp1 (sS_act (show (μ 49 3).toInt.toNat < 12 by omega)) h) (fun μ_5 p_6 => ?_)
    have h_7 : J w L M μ_5 := p_6
    have f_9 : (0 : Int) ≤ (μ_5 49 3).toInt ∧ (μ_5 49 3).toInt ≤ 11 := h_7.rd (a := 49) rfl (by decide) 3
    refine zH_lec (rfl : (μ_5 49 3).toInt = _) (iL (0) (0) rfl) (fun c_8 => ?_) (fun c_8 => ?_)
    · unfold fX4_restore_n41
      have q_13 : (11 : Int32).toInt = (11 : Int) := (iL (11) (11) rfl)
      refine zH_lt (fun μ_10 e_11 => ?_)
      have h_12 : J w L M μ_10 := by rw [e_11]; exact J.up h_7 (a := 49) (k := (0, 4)) rfl (fx34 (by decide) (by decide)) (by decide) (by decide) (Or.inl (by decide)) (show (0 : Int) ≤ (11 : Int32).toInt ∧ (11 : Int32).toInt ≤ 11 from by have q_14 : (11 : Int32).toInt = (11 : Int) := (iL (11) (11) rfl); omega)
      refine zH_lt (fun μ_15 e_16 => ?_)
      have h_17 : J w L M μ_15 := by rw [e_16]; exact J.upf h_12 (a := 49) (k := (0, 4)) rfl (fx34 (by decide) (by decide)) (by decide) (by decide) (Or.inl (by decide)) rfl
      have q_18 : (1 : Int32).toInt = (1 : Int) := (iL (1) (1) rfl)
      exact zH_some ⟨h_17, show (1 : Int32).toInt = 0 ∨ (1 : Int32).toInt = 1 from by have q_19 : ((1 : Int32)).toInt = (1 : Int) := (iL (1) (1) rfl); omega⟩
    · unfold fX4_restore_n41
      have q_23 : ((μ_5 49 3) - (1 : Int32)).toInt = ((μ_5 49 3).toInt - (1 : Int)) := (iS (rfl : (μ_5 49 3).toInt = _) (iL (1) (1) rfl) (by omega) (by omega))
      refine zH_lt (fun μ_20 e_21 => ?_)
      have h_22 : J w L M μ_20 := by rw [e_21]; exact J.up h_7 (a := 49) (k := (0, 4)) rfl (fx34 (by decide) (by decide)) (by decide) (by decide) (Or.inl (by decide)) (show (0 : Int) ≤ ((μ_5 49 3) - (1 : Int32)).toInt ∧ ((μ_5 49 3) - (1 : Int32)).toInt ≤ 11 from by have q_24 : ((μ_5 49 3) - (1 : Int32)).toInt = ((μ_5 49 3).toInt - (1 : Int)) := (iS (rfl : (μ_5 49 3).toInt = _) (iL (1) (1) rfl) (by omega) (by omega)); omega)
      refine zH_lt (fun μ_25 e_26 => ?_)
      have h_27 : J w L M μ_25 := by rw [e_26]; exact J.upf h_22 (a := 49) (k := (0, 4)) rfl (fx34 (by decide) (by decide)) (by decide) (by decide) (Or.inl (by decide)) rfl
      have q_28 : (1 : Int32).toInt = (1 : Int) := (iL (1) (1) rfl)
      exact zH_some ⟨h_27, show (1 : Int32).toInt = 0 ∨ (1 : Int32).toInt = 1 from by have q_29 : ((1 : Int32)).toInt = (1 : Int) := (iL (1) (1) rfl); omega⟩
theorem tX4_keepImage {w : Bool} {L : Int32} {M : gM} {p2 : Nat} {a1 : Int32} {μ : gM} (hp2 : sS p2) (h : J w L M μ) (g0 : 0 ≤ a1.toInt) (g1 : a1.toInt ≤ 1) : zH (fX4_keepImage p2 a1 μ) (fun ν => J w L M ν) := by
  unfold fX4_keepImage
  refine zH_ck (zIn (rfl : a1.toInt = _) (by omega) (by omega)) ?_
  refine zH_bd (tX9_copyFrom (sS_img (show (a1).toInt.toNat < 2 by omega)) hp2 h) (fun μ_1 p_2 => ?_)
  have h_3 : J w L M μ_1 := p_2
  refine zH_lt (fun μ_4 e_5 => ?_)
  have h_6 : J w L M μ_4 := by rw [e_5]; exact J.upf h_3 (a := 49) (k := (0, 4)) rfl (fx34 (by decide) (by decide)) (by decide) (by decide) (Or.inl (by decide)) rfl
  exact zH_some h_6
theorem tX4_takeImage {w : Bool} {L : Int32} {M : gM} {p2 : Nat} {a1 : Int32} {μ : gM} (hp2 : sS p2) (h : J w L M μ) (g0 : 0 ≤ a1.toInt) (g1 : a1.toInt ≤ 1) : zH (fX4_takeImage p2 a1 μ) (fun r => J w L M r.2 ∧ (r.1.toInt = 0 ∨ r.1.toInt = 1)) := by
  unfold fX4_takeImage
  refine zH_eqc (rfl : (((μ 49 4) >>> (a1 &&& 31)) &&& (1 : Int32)).toInt = _) (iL (0) (0) rfl) (fun c_1e c_1 => ?_) (fun c_1e c_1 => ?_)
  · have q_2 : (0 : Int32).toInt = (0 : Int) := (iL (0) (0) rfl)
    exact zH_some ⟨h, show (0 : Int32).toInt = 0 ∨ (0 : Int32).toInt = 1 from by have q_3 : ((0 : Int32)).toInt = (0 : Int) := (iL (0) (0) rfl); omega⟩
  · refine zH_ck (zIn (rfl : a1.toInt = _) (by omega) (by omega)) ?_
    refine zH_bd (tX9_copyFrom hp2 (sS_img (show (a1).toInt.toNat < 2 by omega)) h) (fun μ_4 p_5 => ?_)
    have h_6 : J w L M μ_4 := p_5
    refine zH_lt (fun μ_7 e_8 => ?_)
    have h_9 : J w L M μ_7 := by rw [e_8]; exact J.upf h_6 (a := 49) (k := (0, 4)) rfl (fx34 (by decide) (by decide)) (by decide) (by decide) (Or.inl (by decide)) rfl
    have q_10 : (1 : Int32).toInt = (1 : Int) := (iL (1) (1) rfl)
    exact zH_some ⟨h_9, show (1 : Int32).toInt = 0 ∨ (1 : Int32).toInt = 1 from by have q_11 : ((1 : Int32)).toInt = (1 : Int) := (iL (1) (1) rfl); omega⟩
