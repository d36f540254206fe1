theorem tX2_isFull {L : Int32} {M : gM} {a1 : Int32} {μ : gM}  (h : J false L M μ) (g0 : a1.toInt = 11 ∨ a1.toInt = 7 ∨ (0 ≤ a1.toInt ∧ a1.toInt ≤ 2)) : zH (fX2_isFull a1 μ) (fun v => (v.toInt = 0 ∨ v.toInt = 1) ∧ (v.toInt = 0 → (a1.toInt = 11 → (μ 18 10).toInt < 24) ∧ (a1.toInt = 2 → (μ 19 2).toInt < 5) ∧ (a1.toInt ≤ 2 → (μ 19 a1.toNatClampNeg).toInt < 8 ∧ (a1.toInt = 0 → (μ 19 a1.toNatClampNeg).toInt < 6) ∧ (a1.toInt = 2 → (μ 19 a1.toNatClampNeg).toInt < 5)))) := by
  unfold fX2_isFull
  refine zH_eqc (rfl : a1.toInt = _) (iL (11) (11) rfl) (fun c_1e c_1 => ?_) (fun c_1e c_1 => ?_)
  · have f_3 : (0 : Int) ≤ (μ 18 10).toInt ∧ (μ 18 10).toInt ≤ 24 := h.rd (a := 18) rfl (by decide) 10
    refine zH_ltc (rfl : (μ 18 10).toInt = _) (iL (24) (24) rfl) (fun c_2 => ?_) (fun c_2 => ?_)
    · have q_4 : (0 : Int32).toInt = (0 : Int) := (iL (0) (0) rfl)
      exact zH_some (show ((0 : Int32).toInt = 0 ∨ (0 : Int32).toInt = 1) ∧ ((0 : Int32).toInt = 0 → (a1.toInt = 11 → (μ 18 10).toInt < 24) ∧ (a1.toInt = 2 → (μ 19 2).toInt < 5) ∧ (a1.toInt ≤ 2 → (μ 19 a1.toNatClampNeg).toInt < 8 ∧ (a1.toInt = 0 → (μ 19 a1.toNatClampNeg).toInt < 6) ∧ (a1.toInt = 2 → (μ 19 a1.toNatClampNeg).toInt < 5))) from by have q_5 : (0 : Int32).toInt = (0 : Int) := (iL (0) (0) rfl); omega)
    · have q_6 : (1 : Int32).toInt = (1 : Int) := (iL (1) (1) rfl)
      exact zH_some (show ((1 : Int32).toInt = 0 ∨ (1 : Int32).toInt = 1) ∧ ((1 : Int32).toInt = 0 → (a1.toInt = 11 → (μ 18 10).toInt < 24) ∧ (a1.toInt = 2 → (μ 19 2).toInt < 5) ∧ (a1.toInt ≤ 2 → (μ 19 a1.toNatClampNeg).toInt < 8 ∧ (a1.toInt = 0 → (μ 19 a1.toNatClampNeg).toInt < 6) ∧ (a1.toInt = 2 → (μ 19 a1.toNatClampNeg).toInt < 5))) from by have q_7 : (1 : Int32).toInt = (1 : Int) := (iL (1) (1) rfl); omega)
  · refine zH_eqc (rfl : a1.toInt = _) (iL (7) (7) rfl) (fun c_8e c_8 => ?_) (fun c_8e c_8 => ?_)
    · have q_9 : (0 : Int32).toInt = (0 : Int) := (iL (0) (0) rfl)
      exact zH_some (show ((0 : Int32).toInt = 0 ∨ (0 : Int32).toInt = 1) ∧ ((0 : Int32).toInt = 0 → (a1.toInt = 11 → (μ 18 10).toInt < 24) ∧ (a1.toInt = 2 → (μ 19 2).toInt < 5) ∧ (a1.toInt ≤ 2 → (μ 19 a1.toNatClampNeg).toInt < 8 ∧ (a1.toInt = 0 → (μ 19 a1.toNatClampNeg).toInt < 6) ∧ (a1.toInt = 2 → (μ 19 a1.toNatClampNeg).toInt < 5))) from by have q_10 : (0 : Int32).toInt = (0 : Int) := (iL (0) (0) rfl); omega)
    · refine zH_ck (zIn (rfl : a1.toInt = _) (by omega) (by omega)) ?_
      have nz : a1.toInt = 2 → (μ 19 a1.toNatClampNeg).toInt = (μ 19 2).toInt := fun e => by rw [show a1.toNatClampNeg = 2 from by show a1.toInt.toNat = 2; omega]
      refine zH_bd (tX1_room) (fun x_11 p_12 => ?_)
      have q_13 : (a1.toInt = 0 → x_11.toInt = 6) ∧ (a1.toInt = 1 → x_11.toInt = 8) ∧ (a1.toInt = 2 → x_11.toInt = 5) := p_12
      refine zH_ltc (rfl : (μ 19 (a1).toNatClampNeg).toInt = _) (rfl : x_11.toInt = _) (fun c_14 => ?_) (fun c_14 => ?_)
      · have q_15 : (0 : Int32).toInt = (0 : Int) := (iL (0) (0) rfl)
        exact zH_some (show ((0 : Int32).toInt = 0 ∨ (0 : Int32).toInt = 1) ∧ ((0 : Int32).toInt = 0 → (a1.toInt = 11 → (μ 18 10).toInt < 24) ∧ (a1.toInt = 2 → (μ 19 2).toInt < 5) ∧ (a1.toInt ≤ 2 → (μ 19 a1.toNatClampNeg).toInt < 8 ∧ (a1.toInt = 0 → (μ 19 a1.toNatClampNeg).toInt < 6) ∧ (a1.toInt = 2 → (μ 19 a1.toNatClampNeg).toInt < 5))) from by have q_16 : (0 : Int32).toInt = (0 : Int) := (iL (0) (0) rfl); omega)
      · have q_17 : (1 : Int32).toInt = (1 : Int) := (iL (1) (1) rfl)
        exact zH_some (show ((1 : Int32).toInt = 0 ∨ (1 : Int32).toInt = 1) ∧ ((1 : Int32).toInt = 0 → (a1.toInt = 11 → (μ 18 10).toInt < 24) ∧ (a1.toInt = 2 → (μ 19 2).toInt < 5) ∧ (a1.toInt ≤ 2 → (μ 19 a1.toNatClampNeg).toInt < 8 ∧ (a1.toInt = 0 → (μ 19 a1.toNatClampNeg).toInt < 6) ∧ (a1.toInt = 2 → (μ 19 a1.toNatClampNeg).toInt < 5))) from by have q_18 : (1 : Int32).toInt = (1 : Int) := (iL (1) (1) rfl); omega)
theorem tX2_readName {L : Int32} {M : gM} {a1 : Int32} {μ : gM}  (h : J false L M μ) (g0 : 0 ≤ a1.toInt) (g1 : a1.toInt ≤ 2) (g2 : (μ 19 a1.toNatClampNeg).toInt < 8) (g3 : a1.toInt = 0 → (μ 19 a1.toNatClampNeg).toInt < 6) (g4 : a1.toInt = 2 → (μ 19 a1.toNatClampNeg).toInt < 5) : zH (fX2_readName a1 μ) (fun r => J false L M r.2 ∧ (r.1.toInt = 0 ∨ r.1.toInt = 1)) := by
  unfold fX2_readName
  have nc : 0 ≤ (μ 19 a1.toNatClampNeg).toInt ∧ (μ 19 a1.toNatClampNeg).toInt ≤ 8 ∧ (a1.toInt = 0 → (μ 19 a1.toNatClampNeg).toInt ≤ 6) ∧ (a1.toInt = 2 → (μ 19 a1.toNatClampNeg).toInt ≤ 5) := h.nb18.c (a := a1) (by omega) (by omega)
  refine zH_bd (tX7_isName) (fun x_1 p_2 => ?_)
  have q_3 : x_1.toInt = 0 ∨ x_1.toInt = 1 := p_2
  refine zH_eqc (rfl : x_1.toInt = _) (iL (0) (0) rfl) (fun c_4e c_4 => ?_) (fun c_4e c_4 => ?_)
  · have q_5 : (1 : Int32).toInt = (1 : Int) := (iL (1) (1) rfl)
    refine zH_bp (tX7_refuse h.hl h.jl) (fun x_6 μ_7 p_8 => ?_)
    have h_9 : J false L M μ_7 := h.lex p_8.1
    have q_10 : x_6.toInt = 0 := p_8.2
    refine zH_ck (zBo (show (x_6).toInt = 0 ∨ (x_6).toInt = 1 from by have q_11 : (x_6).toInt = x_6.toInt := (rfl : x_6.toInt = _); omega)) ?_
    exact zH_some ⟨h_9, show x_6.toInt = 0 ∨ x_6.toInt = 1 from by have q_12 : (x_6).toInt = x_6.toInt := (rfl : x_6.toInt = _); omega⟩
  · refine zH_bd (tX1_isTold h.nb18) (fun x_13 p_14 => ?_)
    have q_15 : x_13.toInt = 0 ∨ x_13.toInt = 1 := p_14
    refine zH_eqc (rfl : x_13.toInt = _) (iL (0) (0) rfl) (fun c_16e c_16 => ?_) (fun c_16e c_16 => ?_)
    · refine zH_ck (zIn (rfl : a1.toInt = _) (by omega) (by omega)) ?_
      refine zH_lt (fun x_17 e_18 => ?_)
      have q_19 : x_17.toInt = (μ 19 (a1).toNatClampNeg).toInt := (congrArg Int32.toInt e_18).trans (rfl : (μ 19 (a1).toNatClampNeg).toInt = _)
      refine zH_ck (zIn (iA (iM (rfl : a1.toInt = _) (iL (8) (8) rfl) (by omega) (by omega)) (rfl : x_17.toInt = _) (by omega) (by omega)) (by omega) (by omega)) ?_
      refine zH_lt (fun μ_20 e_21 => ?_)
      have h_22 : J false L M μ_20 := by rw [e_21]; exact J.upf h (a := 20) (k := (1, 24)) rfl (fx0 (by decide) (by decide)) (by decide) (by decide) (Or.inl (by decide)) rfl
      refine zH_ck (zIn (rfl : a1.toInt = _) (by omega) (by omega)) ?_
      have q_26 : (x_17 + (1 : Int32)).toInt = (x_17.toInt + (1 : Int)) := (iA (rfl : x_17.toInt = _) (iL (1) (1) rfl) (by omega) (by omega))
      refine zH_lt (fun μ_23 e_24 => ?_)
      have h_25 : J false L M μ_23 := by rw [e_24]; exact J.upc h_22 (a := 19) rfl (fx0 (by decide) (by decide)) (by decide) (e := a1) (by omega) (by omega) (show 0 ≤ (x_17 + (1 : Int32)).toInt ∧ (a1.toInt = 0 → (x_17 + (1 : Int32)).toInt ≤ 6) ∧ (a1.toInt = 1 → (x_17 + (1 : Int32)).toInt ≤ 8) ∧ (a1.toInt = 2 → (x_17 + (1 : Int32)).toInt ≤ 5) from by have q_27 : (x_17 + (1 : Int32)).toInt = (x_17.toInt + (1 : Int)) := (iA (rfl : x_17.toInt = _) (iL (1) (1) rfl) (by omega) (by omega)); omega)
      refine zH_bd (tX7_advance h_25.hl h_25.jl) (fun μ_28 p_29 => ?_)
      have h_30 : J false L M μ_28 := h_25.lex p_29
      have q_31 : (1 : Int32).toInt = (1 : Int) := (iL (1) (1) rfl)
      exact zH_some ⟨h_30, show (1 : Int32).toInt = 0 ∨ (1 : Int32).toInt = 1 from by have q_32 : ((1 : Int32)).toInt = (1 : Int) := (iL (1) (1) rfl); omega⟩
    · have q_33 : (2 : Int32).toInt = (2 : Int) := (iL (2) (2) rfl)
      refine zH_bp (tX7_refuse h.hl h.jl) (fun x_34 μ_35 p_36 => ?_)
      have h_37 : J false L M μ_35 := h.lex p_36.1
      have q_38 : x_34.toInt = 0 := p_36.2
      refine zH_ck (zBo (show (x_34).toInt = 0 ∨ (x_34).toInt = 1 from by have q_39 : (x_34).toInt = x_34.toInt := (rfl : x_34.toInt = _); omega)) ?_
      exact zH_some ⟨h_37, show x_34.toInt = 0 ∨ x_34.toInt = 1 from by have q_40 : (x_34).toInt = x_34.toInt := (rfl : x_34.toInt = _); omega⟩
theorem tX2_readGroup {L : Int32} {M : gM} {μ : gM}  (h : J false L M μ) (g0 : (μ 19 2).toInt < 5) : zH (fX2_readGroup μ) (fun r => J false L M r.2 ∧ (r.1.toInt = 0 ∨ r.1.toInt = 1)) := by
  unfold fX2_readGroup
  have w2 : (2 : Int32).toInt = 2 := rfl
  have w3 : (μ 19 (2 : Int32).toNatClampNeg).toInt = (μ 19 2).toInt := rfl
  have f_3 : (0 : Int) ≤ (μ 19 2).toInt ∧ (μ 19 2).toInt ≤ 5 := h.rd (a := 19) rfl (by decide) 2
  refine zH_lt (fun x_1 e_2 => ?_)
  have q_4 : x_1.toInt = (μ 19 2).toInt := (congrArg Int32.toInt e_2).trans (rfl : (μ 19 2).toInt = _)
  have q_5 : (2 : Int32).toInt = (2 : Int) := (iL (2) (2) rfl)
  refine zH_bp (tX2_readName h (by omega) (by omega) (by omega) (by omega) (by omega)) (fun x_6 μ_7 p_8 => ?_)
  have h_9 : J false L M μ_7 := p_8.1
  have q_10 : x_6.toInt = 0 ∨ x_6.toInt = 1 := p_8.2
  refine zH_eqc (rfl : x_6.toInt = _) (iL (0) (0) rfl) (fun c_11e c_11 => ?_) (fun c_11e c_11 => ?_)
  · have q_12 : (0 : Int32).toInt = (0 : Int) := (iL (0) (0) rfl)
    exact zH_some ⟨h_9, show (0 : Int32).toInt = 0 ∨ (0 : Int32).toInt = 1 from by have q_13 : ((0 : Int32)).toInt = (0 : Int) := (iL (0) (0) rfl); omega⟩
  · have q_14 : (3 : Int32).toInt = (3 : Int) := (iL (3) (3) rfl)
    refine zH_bp (tX7_pass h_9.hl h_9.jl) (fun x_15 μ_16 p_17 => ?_)
    have h_18 : J false L M μ_16 := h_9.lex p_17.1
    have q_19 : x_15.toInt = 0 ∨ x_15.toInt = 1 := p_17.2
    refine zH_eqc (rfl : x_15.toInt = _) (iL (0) (0) rfl) (fun c_20e c_20 => ?_) (fun c_20e c_20 => ?_)
    · have q_21 : (0 : Int32).toInt = (0 : Int) := (iL (0) (0) rfl)
      exact zH_some ⟨h_18, show (0 : Int32).toInt = 0 ∨ (0 : Int32).toInt = 1 from by have q_22 : ((0 : Int32)).toInt = (0 : Int) := (iL (0) (0) rfl); omega⟩
    · have q_23 : (1 : Int32).toInt = (1 : Int) := (iL (1) (1) rfl)
      have q_24 : (40 : Int32).toInt = (40 : Int) := (iL (40) (40) rfl)
      refine zH_bp (tX7_number h_18.hl h_18.jl) (fun x_25 μ_26 p_27 => ?_)
      have h_28 : J false L M μ_26 := h_18.lex p_27.1
      have q_29 : x_25.toInt = -1 ∨ ((1 : Int32).toInt ≤ x_25.toInt ∧ x_25.toInt ≤ (40 : Int32).toInt) := p_27.2
      refine zH_eqc (rfl : x_25.toInt = _) (iL (-1) (-1) rfl) (fun c_30e c_30 => ?_) (fun c_30e c_30 => ?_)
      · unfold fX2_readGroup_n77
        have w2 : (2 : Int32).toInt = 2 := rfl
        have w3 : (μ 19 (2 : Int32).toNatClampNeg).toInt = (μ 19 2).toInt := rfl
        refine zH_eqc (rfl : x_25.toInt = _) (iL (-1) (-1) rfl) (fun c_31e c_31 => ?_) (fun c_31e c_31 => ?_)
        · unfold fX2_readGroup_n96
          have w2 : (2 : Int32).toInt = 2 := rfl
          have w3 : (μ 19 (2 : Int32).toNatClampNeg).toInt = (μ 19 2).toInt := rfl
          refine zH_eqc (rfl : x_25.toInt = _) (iL (-1) (-1) rfl) (fun c_32e c_32 => ?_) (fun c_32e c_32 => ?_)
          · have q_33 : (0 : Int32).toInt = (0 : Int) := (iL (0) (0) rfl)
            exact zH_some ⟨h_28, show (0 : Int32).toInt = 0 ∨ (0 : Int32).toInt = 1 from by have q_34 : ((0 : Int32)).toInt = (0 : Int) := (iL (0) (0) rfl); omega⟩
          · refine zH_eqc (iL (0) (0) rfl) (iL (-1) (-1) rfl) (fun c_35e c_35 => ?_) (fun c_35e c_35 => ?_)
            · have q_36 : (0 : Int32).toInt = (0 : Int) := (iL (0) (0) rfl)
              exact zH_some ⟨h_28, show (0 : Int32).toInt = 0 ∨ (0 : Int32).toInt = 1 from by have q_37 : ((0 : Int32)).toInt = (0 : Int) := (iL (0) (0) rfl); omega⟩
            · have q_38 : (6 : Int32).toInt = (6 : Int) := (iL (6) (6) rfl)
              refine zH_bp (tX7_passIfThere h_28.hl h_28.jl) (fun x_39 μ_40 p_41 => ?_)
              have h_42 : J false L M μ_40 := h_28.lex p_41.1
              have q_43 : x_39.toInt = 0 ∨ x_39.toInt = 1 := p_41.2
              refine zH_eqc (rfl : x_39.toInt = _) (iL (0) (0) rfl) (fun c_44e c_44 => ?_) (fun c_44e c_44 => ?_)
              · unfold fX2_readGroup_n134
                have w2 : (2 : Int32).toInt = 2 := rfl
                have w3 : (μ 19 (2 : Int32).toNatClampNeg).toInt = (μ 19 2).toInt := rfl
                refine zH_ck (zIn (rfl : x_1.toInt = _) (by omega) (by omega)) ?_
                refine zH_lt (fun μ_45 e_46 => ?_)
                have h_47 : J false L M μ_45 := by rw [e_46]; exact J.upf h_42 (a := 21) (k := (1, 5)) rfl (fx0 (by decide) (by decide)) (by decide) (by decide) (Or.inl (by decide)) rfl
                refine zH_ck (zIn (rfl : x_1.toInt = _) (by omega) (by omega)) ?_
                refine zH_lt (fun μ_48 e_49 => ?_)
                have h_50 : J false L M μ_48 := by rw [e_49]; exact J.upf h_47 (a := 22) (k := (1, 5)) rfl (fx0 (by decide) (by decide)) (by decide) (by decide) (Or.inl (by decide)) rfl
                refine zH_ck (zIn (rfl : x_1.toInt = _) (by omega) (by omega)) ?_
                refine zH_lt (fun μ_51 e_52 => ?_)
                have h_53 : J false L M μ_51 := by rw [e_52]; exact J.upf h_50 (a := 23) (k := (1, 5)) rfl (fx0 (by decide) (by decide)) (by decide) (by decide) (Or.inl (by decide)) rfl
                refine zH_ck (zIn (rfl : x_1.toInt = _) (by omega) (by omega)) ?_
                refine zH_lt (fun μ_54 e_55 => ?_)
                have h_56 : J false L M μ_54 := by rw [e_55]; exact J.upf h_53 (a := 24) (k := (1, 5)) rfl (fx0 (by decide) (by decide)) (by decide) (by decide) (Or.inl (by decide)) rfl
                refine zH_eqc (iL (1) (1) rfl) (iL (-1) (-1) rfl) (fun c_57e c_57 => ?_) (fun c_57e c_57 => ?_)
                · have q_58 : (0 : Int32).toInt = (0 : Int) := (iL (0) (0) rfl)
                  exact zH_some ⟨h_56, show (0 : Int32).toInt = 0 ∨ (0 : Int32).toInt = 1 from by have q_59 : ((0 : Int32)).toInt = (0 : Int) := (iL (0) (0) rfl); omega⟩
                · exact zH_some ⟨h_56, show (1 : Int32).toInt = 0 ∨ (1 : Int32).toInt = 1 from by have q_60 : ((1 : Int32)).toInt = (1 : Int) := (iL (1) (1) rfl); omega⟩
              · have q_61 : (8 : Int32).toInt = (8 : Int) := (iL (8) (8) rfl)
                refine zH_bp (tX7_number h_42.hl h_42.jl) (fun x_62 μ_63 p_64 => ?_)
                have h_65 : J false L M μ_63 := h_42.lex p_64.1
                have q_66 : x_62.toInt = -1 ∨ ((1 : Int32).toInt ≤ x_62.toInt ∧ x_62.toInt ≤ (8 : Int32).toInt) := p_64.2
                unfold fX2_readGroup_n134
                have w2 : (2 : Int32).toInt = 2 := rfl
                have w3 : (μ 19 (2 : Int32).toNatClampNeg).toInt = (μ 19 2).toInt := rfl
                refine zH_ck (zIn (rfl : x_1.toInt = _) (by omega) (by omega)) ?_
                refine zH_lt (fun μ_67 e_68 => ?_)
                have h_69 : J false L M μ_67 := by rw [e_68]; exact J.upf h_65 (a := 21) (k := (1, 5)) rfl (fx0 (by decide) (by decide)) (by decide) (by decide) (Or.inl (by decide)) rfl
                refine zH_ck (zIn (rfl : x_1.toInt = _) (by omega) (by omega)) ?_
                refine zH_lt (fun μ_70 e_71 => ?_)
                have h_72 : J false L M μ_70 := by rw [e_71]; exact J.upf h_69 (a := 22) (k := (1, 5)) rfl (fx0 (by decide) (by decide)) (by decide) (by decide) (Or.inl (by decide)) rfl
                refine zH_ck (zIn (rfl : x_1.toInt = _) (by omega) (by omega)) ?_
                refine zH_lt (fun μ_73 e_74 => ?_)
                have h_75 : J false L M μ_73 := by rw [e_74]; exact J.upf h_72 (a := 23) (k := (1, 5)) rfl (fx0 (by decide) (by decide)) (by decide) (by decide) (Or.inl (by decide)) rfl
                refine zH_ck (zIn (rfl : x_1.toInt = _) (by omega) (by omega)) ?_
                refine zH_lt (fun μ_76 e_77 => ?_)
                have h_78 : J false L M μ_76 := by rw [e_77]; exact J.upf h_75 (a := 24) (k := (1, 5)) rfl (fx0 (by decide) (by decide)) (by decide) (by decide) (Or.inl (by decide)) rfl
                refine zH_eqc (rfl : x_62.toInt = _) (iL (-1) (-1) rfl) (fun c_79e c_79 => ?_) (fun c_79e c_79 => ?_)
                · have q_80 : (0 : Int32).toInt = (0 : Int) := (iL (0) (0) rfl)
                  exact zH_some ⟨h_78, show (0 : Int32).toInt = 0 ∨ (0 : Int32).toInt = 1 from by have q_81 : ((0 : Int32)).toInt = (0 : Int) := (iL (0) (0) rfl); omega⟩
                · exact zH_some ⟨h_78, show (1 : Int32).toInt = 0 ∨ (1 : Int32).toInt = 1 from by have q_82 : ((1 : Int32)).toInt = (1 : Int) := (iL (1) (1) rfl); omega⟩
        · have q_83 : (5 : Int32).toInt = (5 : Int) := (iL (5) (5) rfl)
          refine zH_bp (tX7_passIfThere h_28.hl h_28.jl) (fun x_84 μ_85 p_86 => ?_)
          have h_87 : J false L M μ_85 := h_28.lex p_86.1
          have q_88 : x_84.toInt = 0 ∨ x_84.toInt = 1 := p_86.2
          refine zH_eqc (rfl : x_84.toInt = _) (iL (0) (0) rfl) (fun c_89e c_89 => ?_) (fun c_89e c_89 => ?_)
          · unfold fX2_readGroup_n96
            have w2 : (2 : Int32).toInt = 2 := rfl
            have w3 : (μ 19 (2 : Int32).toNatClampNeg).toInt = (μ 19 2).toInt := rfl
            refine zH_eqc (rfl : x_25.toInt = _) (iL (-1) (-1) rfl) (fun c_90e c_90 => ?_) (fun c_90e c_90 => ?_)
            · have q_91 : (0 : Int32).toInt = (0 : Int) := (iL (0) (0) rfl)
              exact zH_some ⟨h_87, show (0 : Int32).toInt = 0 ∨ (0 : Int32).toInt = 1 from by have q_92 : ((0 : Int32)).toInt = (0 : Int) := (iL (0) (0) rfl); omega⟩
            · refine zH_eqc (iL (0) (0) rfl) (iL (-1) (-1) rfl) (fun c_93e c_93 => ?_) (fun c_93e c_93 => ?_)
              · have q_94 : (0 : Int32).toInt = (0 : Int) := (iL (0) (0) rfl)
                exact zH_some ⟨h_87, show (0 : Int32).toInt = 0 ∨ (0 : Int32).toInt = 1 from by have q_95 : ((0 : Int32)).toInt = (0 : Int) := (iL (0) (0) rfl); omega⟩
              · have q_96 : (6 : Int32).toInt = (6 : Int) := (iL (6) (6) rfl)
                refine zH_bp (tX7_passIfThere h_87.hl h_87.jl) (fun x_97 μ_98 p_99 => ?_)
                have h_100 : J false L M μ_98 := h_87.lex p_99.1
                have q_101 : x_97.toInt = 0 ∨ x_97.toInt = 1 := p_99.2
                refine zH_eqc (rfl : x_97.toInt = _) (iL (0) (0) rfl) (fun c_102e c_102 => ?_) (fun c_102e c_102 => ?_)
                · unfold fX2_readGroup_n134
                  have w2 : (2 : Int32).toInt = 2 := rfl
                  have w3 : (μ 19 (2 : Int32).toNatClampNeg).toInt = (μ 19 2).toInt := rfl
                  refine zH_ck (zIn (rfl : x_1.toInt = _) (by omega) (by omega)) ?_
                  refine zH_lt (fun μ_103 e_104 => ?_)
                  have h_105 : J false L M μ_103 := by rw [e_104]; exact J.upf h_100 (a := 21) (k := (1, 5)) rfl (fx0 (by decide) (by decide)) (by decide) (by decide) (Or.inl (by decide)) rfl
                  refine zH_ck (zIn (rfl : x_1.toInt = _) (by omega) (by omega)) ?_
                  refine zH_lt (fun μ_106 e_107 => ?_)
                  have h_108 : J false L M μ_106 := by rw [e_107]; exact J.upf h_105 (a := 22) (k := (1, 5)) rfl (fx0 (by decide) (by decide)) (by decide) (by decide) (Or.inl (by decide)) rfl
                  refine zH_ck (zIn (rfl : x_1.toInt = _) (by omega) (by omega)) ?_
                  refine zH_lt (fun μ_109 e_110 => ?_)
                  have h_111 : J false L M μ_109 := by rw [e_110]; exact J.upf h_108 (a := 23) (k := (1, 5)) rfl (fx0 (by decide) (by decide)) (by decide) (by decide) (Or.inl (by decide)) rfl
                  refine zH_ck (zIn (rfl : x_1.toInt = _) (by omega) (by omega)) ?_
                  refine zH_lt (fun μ_112 e_113 => ?_)
                  have h_114 : J false L M μ_112 := by rw [e_113]; exact J.upf h_111 (a := 24) (k := (1, 5)) rfl (fx0 (by decide) (by decide)) (by decide) (by decide) (Or.inl (by decide)) rfl
                  refine zH_eqc (iL (1) (1) rfl) (iL (-1) (-1) rfl) (fun c_115e c_115 => ?_) (fun c_115e c_115 => ?_)
                  · have q_116 : (0 : Int32).toInt = (0 : Int) := (iL (0) (0) rfl)
                    exact zH_some ⟨h_114, show (0 : Int32).toInt = 0 ∨ (0 : Int32).toInt = 1 from by have q_117 : ((0 : Int32)).toInt = (0 : Int) := (iL (0) (0) rfl); omega⟩
                  · exact zH_some ⟨h_114, show (1 : Int32).toInt = 0 ∨ (1 : Int32).toInt = 1 from by have q_118 : ((1 : Int32)).toInt = (1 : Int) := (iL (1) (1) rfl); omega⟩
                · have q_119 : (8 : Int32).toInt = (8 : Int) := (iL (8) (8) rfl)
                  refine zH_bp (tX7_number h_100.hl h_100.jl) (fun x_120 μ_121 p_122 => ?_)
                  have h_123 : J false L M μ_121 := h_100.lex p_122.1
                  have q_124 : x_120.toInt = -1 ∨ ((1 : Int32).toInt ≤ x_120.toInt ∧ x_120.toInt ≤ (8 : Int32).toInt) := p_122.2
                  unfold fX2_readGroup_n134
                  have w2 : (2 : Int32).toInt = 2 := rfl
                  have w3 : (μ 19 (2 : Int32).toNatClampNeg).toInt = (μ 19 2).toInt := rfl
                  refine zH_ck (zIn (rfl : x_1.toInt = _) (by omega) (by omega)) ?_
                  refine zH_lt (fun μ_125 e_126 => ?_)
                  have h_127 : J false L M μ_125 := by rw [e_126]; exact J.upf h_123 (a := 21) (k := (1, 5)) rfl (fx0 (by decide) (by decide)) (by decide) (by decide) (Or.inl (by decide)) rfl
                  refine zH_ck (zIn (rfl : x_1.toInt = _) (by omega) (by omega)) ?_
                  refine zH_lt (fun μ_128 e_129 => ?_)
                  have h_130 : J false L M μ_128 := by rw [e_129]; exact J.upf h_127 (a := 22) (k := (1, 5)) rfl (fx0 (by decide) (by decide)) (by decide) (by decide) (Or.inl (by decide)) rfl
                  refine zH_ck (zIn (rfl : x_1.toInt = _) (by omega) (by omega)) ?_
                  refine zH_lt (fun μ_131 e_132 => ?_)
                  have h_133 : J false L M μ_131 := by rw [e_132]; exact J.upf h_130 (a := 23) (k := (1, 5)) rfl (fx0 (by decide) (by decide)) (by decide) (by decide) (Or.inl (by decide)) rfl
                  refine zH_ck (zIn (rfl : x_1.toInt = _) (by omega) (by omega)) ?_
                  refine zH_lt (fun μ_134 e_135 => ?_)
                  have h_136 : J false L M μ_134 := by rw [e_135]; exact J.upf h_133 (a := 24) (k := (1, 5)) rfl (fx0 (by decide) (by decide)) (by decide) (by decide) (Or.inl (by decide)) rfl
                  refine zH_eqc (rfl : x_120.toInt = _) (iL (-1) (-1) rfl) (fun c_137e c_137 => ?_) (fun c_137e c_137 => ?_)
                  · have q_138 : (0 : Int32).toInt = (0 : Int) := (iL (0) (0) rfl)
                    exact zH_some ⟨h_136, show (0 : Int32).toInt = 0 ∨ (0 : Int32).toInt = 1 from by have q_139 : ((0 : Int32)).toInt = (0 : Int) := (iL (0) (0) rfl); omega⟩
                  · exact zH_some ⟨h_136, show (1 : Int32).toInt = 0 ∨ (1 : Int32).toInt = 1 from by have q_140 : ((1 : Int32)).toInt = (1 : Int) := (iL (1) (1) rfl); omega⟩
          · unfold fX2_readGroup_n96
            have w2 : (2 : Int32).toInt = 2 := rfl
            have w3 : (μ 19 (2 : Int32).toNatClampNeg).toInt = (μ 19 2).toInt := rfl
            refine zH_eqc (rfl : x_25.toInt = _) (iL (-1) (-1) rfl) (fun c_141e c_141 => ?_) (fun c_141e c_141 => ?_)
            · have q_142 : (0 : Int32).toInt = (0 : Int) := (iL (0) (0) rfl)
              exact zH_some ⟨h_87, show (0 : Int32).toInt = 0 ∨ (0 : Int32).toInt = 1 from by have q_143 : ((0 : Int32)).toInt = (0 : Int) := (iL (0) (0) rfl); omega⟩
            · refine zH_eqc (iL (0) (0) rfl) (iL (-1) (-1) rfl) (fun c_144e c_144 => ?_) (fun c_144e c_144 => ?_)
              · have q_145 : (0 : Int32).toInt = (0 : Int) := (iL (0) (0) rfl)
                exact zH_some ⟨h_87, show (0 : Int32).toInt = 0 ∨ (0 : Int32).toInt = 1 from by have q_146 : ((0 : Int32)).toInt = (0 : Int) := (iL (0) (0) rfl); omega⟩
              · have q_147 : (6 : Int32).toInt = (6 : Int) := (iL (6) (6) rfl)
                refine zH_bp (tX7_passIfThere h_87.hl h_87.jl) (fun x_148 μ_149 p_150 => ?_)
                have h_151 : J false L M μ_149 := h_87.lex p_150.1
                have q_152 : x_148.toInt = 0 ∨ x_148.toInt = 1 := p_150.2
                refine zH_eqc (rfl : x_148.toInt = _) (iL (0) (0) rfl) (fun c_153e c_153 => ?_) (fun c_153e c_153 => ?_)
                · unfold fX2_readGroup_n134
                  have w2 : (2 : Int32).toInt = 2 := rfl
                  have w3 : (μ 19 (2 : Int32).toNatClampNeg).toInt = (μ 19 2).toInt := rfl
                  refine zH_ck (zIn (rfl : x_1.toInt = _) (by omega) (by omega)) ?_
                  refine zH_lt (fun μ_154 e_155 => ?_)
                  have h_156 : J false L M μ_154 := by rw [e_155]; exact J.upf h_151 (a := 21) (k := (1, 5)) rfl (fx0 (by decide) (by decide)) (by decide) (by decide) (Or.inl (by decide)) rfl
                  refine zH_ck (zIn (rfl : x_1.toInt = _) (by omega) (by omega)) ?_
                  refine zH_lt (fun μ_157 e_158 => ?_)
                  have h_159 : J false L M μ_157 := by rw [e_158]; exact J.upf h_156 (a := 22) (k := (1, 5)) rfl (fx0 (by decide) (by decide)) (by decide) (by decide) (Or.inl (by decide)) rfl
                  refine zH_ck (zIn (rfl : x_1.toInt = _) (by omega) (by omega)) ?_
                  refine zH_lt (fun μ_160 e_161 => ?_)
                  have h_162 : J false L M μ_160 := by rw [e_161]; exact J.upf h_159 (a := 23) (k := (1, 5)) rfl (fx0 (by decide) (by decide)) (by decide) (by decide) (Or.inl (by decide)) rfl
                  refine zH_ck (zIn (rfl : x_1.toInt = _) (by omega) (by omega)) ?_
                  refine zH_lt (fun μ_163 e_164 => ?_)
                  have h_165 : J false L M μ_163 := by rw [e_164]; exact J.upf h_162 (a := 24) (k := (1, 5)) rfl (fx0 (by decide) (by decide)) (by decide) (by decide) (Or.inl (by decide)) rfl
                  refine zH_eqc (iL (1) (1) rfl) (iL (-1) (-1) rfl) (fun c_166e c_166 => ?_) (fun c_166e c_166 => ?_)
                  · have q_167 : (0 : Int32).toInt = (0 : Int) := (iL (0) (0) rfl)
                    exact zH_some ⟨h_165, show (0 : Int32).toInt = 0 ∨ (0 : Int32).toInt = 1 from by have q_168 : ((0 : Int32)).toInt = (0 : Int) := (iL (0) (0) rfl); omega⟩
                  · exact zH_some ⟨h_165, show (1 : Int32).toInt = 0 ∨ (1 : Int32).toInt = 1 from by have q_169 : ((1 : Int32)).toInt = (1 : Int) := (iL (1) (1) rfl); omega⟩
                · have q_170 : (8 : Int32).toInt = (8 : Int) := (iL (8) (8) rfl)
                  refine zH_bp (tX7_number h_151.hl h_151.jl) (fun x_171 μ_172 p_173 => ?_)
                  have h_174 : J false L M μ_172 := h_151.lex p_173.1
                  have q_175 : x_171.toInt = -1 ∨ ((1 : Int32).toInt ≤ x_171.toInt ∧ x_171.toInt ≤ (8 : Int32).toInt) := p_173.2
                  unfold fX2_readGroup_n134
                  have w2 : (2 : Int32).toInt = 2 := rfl
                  have w3 : (μ 19 (2 : Int32).toNatClampNeg).toInt = (μ 19 2).toInt := rfl
                  refine zH_ck (zIn (rfl : x_1.toInt = _) (by omega) (by omega)) ?_
                  refine zH_lt (fun μ_176 e_177 => ?_)
                  have h_178 : J false L M μ_176 := by rw [e_177]; exact J.upf h_174 (a := 21) (k := (1, 5)) rfl (fx0 (by decide) (by decide)) (by decide) (by decide) (Or.inl (by decide)) rfl
                  refine zH_ck (zIn (rfl : x_1.toInt = _) (by omega) (by omega)) ?_
                  refine zH_lt (fun μ_179 e_180 => ?_)
                  have h_181 : J false L M μ_179 := by rw [e_180]; exact J.upf h_178 (a := 22) (k := (1, 5)) rfl (fx0 (by decide) (by decide)) (by decide) (by decide) (Or.inl (by decide)) rfl
                  refine zH_ck (zIn (rfl : x_1.toInt = _) (by omega) (by omega)) ?_
                  refine zH_lt (fun μ_182 e_183 => ?_)
                  have h_184 : J false L M μ_182 := by rw [e_183]; exact J.upf h_181 (a := 23) (k := (1, 5)) rfl (fx0 (by decide) (by decide)) (by decide) (by decide) (Or.inl (by decide)) rfl
                  refine zH_ck (zIn (rfl : x_1.toInt = _) (by omega) (by omega)) ?_
                  refine zH_lt (fun μ_185 e_186 => ?_)
                  have h_187 : J false L M μ_185 := by rw [e_186]; exact J.upf h_184 (a := 24) (k := (1, 5)) rfl (fx0 (by decide) (by decide)) (by decide) (by decide) (Or.inl (by decide)) rfl
                  refine zH_eqc (rfl : x_171.toInt = _) (iL (-1) (-1) rfl) (fun c_188e c_188 => ?_) (fun c_188e c_188 => ?_)
                  · have q_189 : (0 : Int32).toInt = (0 : Int) := (iL (0) (0) rfl)
                    exact zH_some ⟨h_187, show (0 : Int32).toInt = 0 ∨ (0 : Int32).toInt = 1 from by have q_190 : ((0 : Int32)).toInt = (0 : Int) := (iL (0) (0) rfl); omega⟩
                  · exact zH_some ⟨h_187, show (1 : Int32).toInt = 0 ∨ (1 : Int32).toInt = 1 from by have q_191 : ((1 : Int32)).toInt = (1 : Int) := (iL (1) (1) rfl); omega⟩
      · have q_192 : (4 : Int32).toInt = (4 : Int) := (iL (4) (4) rfl)
        refine zH_bp (tX7_passIfThere h_28.hl h_28.jl) (fun x_193 μ_194 p_195 => ?_)
        have h_196 : J false L M μ_194 := h_28.lex p_195.1
        have q_197 : x_193.toInt = 0 ∨ x_193.toInt = 1 := p_195.2
        refine zH_eqc (rfl : x_193.toInt = _) (iL (0) (0) rfl) (fun c_198e c_198 => ?_) (fun c_198e c_198 => ?_)
        · unfold fX2_readGroup_n77
          have w2 : (2 : Int32).toInt = 2 := rfl
          have w3 : (μ 19 (2 : Int32).toNatClampNeg).toInt = (μ 19 2).toInt := rfl
          refine zH_eqc (rfl : x_25.toInt = _) (iL (-1) (-1) rfl) (fun c_199e c_199 => ?_) (fun c_199e c_199 => ?_)
          · unfold fX2_readGroup_n96
            have w2 : (2 : Int32).toInt = 2 := rfl
            have w3 : (μ 19 (2 : Int32).toNatClampNeg).toInt = (μ 19 2).toInt := rfl
            refine zH_eqc (rfl : x_25.toInt = _) (iL (-1) (-1) rfl) (fun c_200e c_200 => ?_) (fun c_200e c_200 => ?_)
            · have q_201 : (0 : Int32).toInt = (0 : Int) := (iL (0) (0) rfl)
              exact zH_some ⟨h_196, show (0 : Int32).toInt = 0 ∨ (0 : Int32).toInt = 1 from by have q_202 : ((0 : Int32)).toInt = (0 : Int) := (iL (0) (0) rfl); omega⟩
            · refine zH_eqc (iL (0) (0) rfl) (iL (-1) (-1) rfl) (fun c_203e c_203 => ?_) (fun c_203e c_203 => ?_)
              · have q_204 : (0 : Int32).toInt = (0 : Int) := (iL (0) (0) rfl)
                exact zH_some ⟨h_196, show (0 : Int32).toInt = 0 ∨ (0 : Int32).toInt = 1 from by have q_205 : ((0 : Int32)).toInt = (0 : Int) := (iL (0) (0) rfl); omega⟩
              · have q_206 : (6 : Int32).toInt = (6 : Int) := (iL (6) (6) rfl)
                refine zH_bp (tX7_passIfThere h_196.hl h_196.jl) (fun x_207 μ_208 p_209 => ?_)
                have h_210 : J false L M μ_208 := h_196.lex p_209.1
                have q_211 : x_207.toInt = 0 ∨ x_207.toInt = 1 := p_209.2
                refine zH_eqc (rfl : x_207.toInt = _) (iL (0) (0) rfl) (fun c_212e c_212 => ?_) (fun c_212e c_212 => ?_)
                · unfold fX2_readGroup_n134
                  have w2 : (2 : Int32).toInt = 2 := rfl
                  have w3 : (μ 19 (2 : Int32).toNatClampNeg).toInt = (μ 19 2).toInt := rfl
                  refine zH_ck (zIn (rfl : x_1.toInt = _) (by omega) (by omega)) ?_
                  refine zH_lt (fun μ_213 e_214 => ?_)
                  have h_215 : J false L M μ_213 := by rw [e_214]; exact J.upf h_210 (a := 21) (k := (1, 5)) rfl (fx0 (by decide) (by decide)) (by decide) (by decide) (Or.inl (by decide)) rfl
                  refine zH_ck (zIn (rfl : x_1.toInt = _) (by omega) (by omega)) ?_
                  refine zH_lt (fun μ_216 e_217 => ?_)
                  have h_218 : J false L M μ_216 := by rw [e_217]; exact J.upf h_215 (a := 22) (k := (1, 5)) rfl (fx0 (by decide) (by decide)) (by decide) (by decide) (Or.inl (by decide)) rfl
                  refine zH_ck (zIn (rfl : x_1.toInt = _) (by omega) (by omega)) ?_
                  refine zH_lt (fun μ_219 e_220 => ?_)
                  have h_221 : J false L M μ_219 := by rw [e_220]; exact J.upf h_218 (a := 23) (k := (1, 5)) rfl (fx0 (by decide) (by decide)) (by decide) (by decide) (Or.inl (by decide)) rfl
                  refine zH_ck (zIn (rfl : x_1.toInt = _) (by omega) (by omega)) ?_
                  refine zH_lt (fun μ_222 e_223 => ?_)
                  have h_224 : J false L M μ_222 := by rw [e_223]; exact J.upf h_221 (a := 24) (k := (1, 5)) rfl (fx0 (by decide) (by decide)) (by decide) (by decide) (Or.inl (by decide)) rfl
                  refine zH_eqc (iL (1) (1) rfl) (iL (-1) (-1) rfl) (fun c_225e c_225 => ?_) (fun c_225e c_225 => ?_)
                  · have q_226 : (0 : Int32).toInt = (0 : Int) := (iL (0) (0) rfl)
                    exact zH_some ⟨h_224, show (0 : Int32).toInt = 0 ∨ (0 : Int32).toInt = 1 from by have q_227 : ((0 : Int32)).toInt = (0 : Int) := (iL (0) (0) rfl); omega⟩
                  · exact zH_some ⟨h_224, show (1 : Int32).toInt = 0 ∨ (1 : Int32).toInt = 1 from by have q_228 : ((1 : Int32)).toInt = (1 : Int) := (iL (1) (1) rfl); omega⟩
                · have q_229 : (8 : Int32).toInt = (8 : Int) := (iL (8) (8) rfl)
                  refine zH_bp (tX7_number h_210.hl h_210.jl) (fun x_230 μ_231 p_232 => ?_)
                  have h_233 : J false L M μ_231 := h_210.lex p_232.1
                  have q_234 : x_230.toInt = -1 ∨ ((1 : Int32).toInt ≤ x_230.toInt ∧ x_230.toInt ≤ (8 : Int32).toInt) := p_232.2
                  unfold fX2_readGroup_n134
                  have w2 : (2 : Int32).toInt = 2 := rfl
                  have w3 : (μ 19 (2 : Int32).toNatClampNeg).toInt = (μ 19 2).toInt := rfl
                  refine zH_ck (zIn (rfl : x_1.toInt = _) (by omega) (by omega)) ?_
                  refine zH_lt (fun μ_235 e_236 => ?_)
                  have h_237 : J false L M μ_235 := by rw [e_236]; exact J.upf h_233 (a := 21) (k := (1, 5)) rfl (fx0 (by decide) (by decide)) (by decide) (by decide) (Or.inl (by decide)) rfl
                  refine zH_ck (zIn (rfl : x_1.toInt = _) (by omega) (by omega)) ?_
                  refine zH_lt (fun μ_238 e_239 => ?_)
                  have h_240 : J false L M μ_238 := by rw [e_239]; exact J.upf h_237 (a := 22) (k := (1, 5)) rfl (fx0 (by decide) (by decide)) (by decide) (by decide) (Or.inl (by decide)) rfl
                  refine zH_ck (zIn (rfl : x_1.toInt = _) (by omega) (by omega)) ?_
                  refine zH_lt (fun μ_241 e_242 => ?_)
                  have h_243 : J false L M μ_241 := by rw [e_242]; exact J.upf h_240 (a := 23) (k := (1, 5)) rfl (fx0 (by decide) (by decide)) (by decide) (by decide) (Or.inl (by decide)) rfl
                  refine zH_ck (zIn (rfl : x_1.toInt = _) (by omega) (by omega)) ?_
                  refine zH_lt (fun μ_244 e_245 => ?_)
                  have h_246 : J false L M μ_244 := by rw [e_245]; exact J.upf h_243 (a := 24) (k := (1, 5)) rfl (fx0 (by decide) (by decide)) (by decide) (by decide) (Or.inl (by decide)) rfl
                  refine zH_eqc (rfl : x_230.toInt = _) (iL (-1) (-1) rfl) (fun c_247e c_247 => ?_) (fun c_247e c_247 => ?_)
                  · have q_248 : (0 : Int32).toInt = (0 : Int) := (iL (0) (0) rfl)
                    exact zH_some ⟨h_246, show (0 : Int32).toInt = 0 ∨ (0 : Int32).toInt = 1 from by have q_249 : ((0 : Int32)).toInt = (0 : Int) := (iL (0) (0) rfl); omega⟩
                  · exact zH_some ⟨h_246, show (1 : Int32).toInt = 0 ∨ (1 : Int32).toInt = 1 from by have q_250 : ((1 : Int32)).toInt = (1 : Int) := (iL (1) (1) rfl); omega⟩
          · have q_251 : (5 : Int32).toInt = (5 : Int) := (iL (5) (5) rfl)
            refine zH_bp (tX7_passIfThere h_196.hl h_196.jl) (fun x_252 μ_253 p_254 => ?_)
            have h_255 : J false L M μ_253 := h_196.lex p_254.1
            have q_256 : x_252.toInt = 0 ∨ x_252.toInt = 1 := p_254.2
            refine zH_eqc (rfl : x_252.toInt = _) (iL (0) (0) rfl) (fun c_257e c_257 => ?_) (fun c_257e c_257 => ?_)
            · unfold fX2_readGroup_n96
              have w2 : (2 : Int32).toInt = 2 := rfl
              have w3 : (μ 19 (2 : Int32).toNatClampNeg).toInt = (μ 19 2).toInt := rfl
              refine zH_eqc (rfl : x_25.toInt = _) (iL (-1) (-1) rfl) (fun c_258e c_258 => ?_) (fun c_258e c_258 => ?_)
              · have q_259 : (0 : Int32).toInt = (0 : Int) := (iL (0) (0) rfl)
                exact zH_some ⟨h_255, show (0 : Int32).toInt = 0 ∨ (0 : Int32).toInt = 1 from by have q_260 : ((0 : Int32)).toInt = (0 : Int) := (iL (0) (0) rfl); omega⟩
              · refine zH_eqc (iL (0) (0) rfl) (iL (-1) (-1) rfl) (fun c_261e c_261 => ?_) (fun c_261e c_261 => ?_)
                · have q_262 : (0 : Int32).toInt = (0 : Int) := (iL (0) (0) rfl)
                  exact zH_some ⟨h_255, show (0 : Int32).toInt = 0 ∨ (0 : Int32).toInt = 1 from by have q_263 : ((0 : Int32)).toInt = (0 : Int) := (iL (0) (0) rfl); omega⟩
                · have q_264 : (6 : Int32).toInt = (6 : Int) := (iL (6) (6) rfl)
                  refine zH_bp (tX7_passIfThere h_255.hl h_255.jl) (fun x_265 μ_266 p_267 => ?_)
                  have h_268 : J false L M μ_266 := h_255.lex p_267.1
                  have q_269 : x_265.toInt = 0 ∨ x_265.toInt = 1 := p_267.2
                  refine zH_eqc (rfl : x_265.toInt = _) (iL (0) (0) rfl) (fun c_270e c_270 => ?_) (fun c_270e c_270 => ?_)
                  · unfold fX2_readGroup_n134
                    have w2 : (2 : Int32).toInt = 2 := rfl
                    have w3 : (μ 19 (2 : Int32).toNatClampNeg).toInt = (μ 19 2).toInt := rfl
                    refine zH_ck (zIn (rfl : x_1.toInt = _) (by omega) (by omega)) ?_
                    refine zH_lt (fun μ_271 e_272 => ?_)
                    have h_273 : J false L M μ_271 := by rw [e_272]; exact J.upf h_268 (a := 21) (k := (1, 5)) rfl (fx0 (by decide) (by decide)) (by decide) (by decide) (Or.inl (by decide)) rfl
                    refine zH_ck (zIn (rfl : x_1.toInt = _) (by omega) (by omega)) ?_
                    refine zH_lt (fun μ_274 e_275 => ?_)
                    have h_276 : J false L M μ_274 := by rw [e_275]; exact J.upf h_273 (a := 22) (k := (1, 5)) rfl (fx0 (by decide) (by decide)) (by decide) (by decide) (Or.inl (by decide)) rfl
                    refine zH_ck (zIn (rfl : x_1.toInt = _) (by omega) (by omega)) ?_
                    refine zH_lt (fun μ_277 e_278 => ?_)
                    have h_279 : J false L M μ_277 := by rw [e_278]; exact J.upf h_276 (a := 23) (k := (1, 5)) rfl (fx0 (by decide) (by decide)) (by decide) (by decide) (Or.inl (by decide)) rfl
                    refine zH_ck (zIn (rfl : x_1.toInt = _) (by omega) (by omega)) ?_
                    refine zH_lt (fun μ_280 e_281 => ?_)
                    have h_282 : J false L M μ_280 := by rw [e_281]; exact J.upf h_279 (a := 24) (k := (1, 5)) rfl (fx0 (by decide) (by decide)) (by decide) (by decide) (Or.inl (by decide)) rfl
                    refine zH_eqc (iL (1) (1) rfl) (iL (-1) (-1) rfl) (fun c_283e c_283 => ?_) (fun c_283e c_283 => ?_)
                    · have q_284 : (0 : Int32).toInt = (0 : Int) := (iL (0) (0) rfl)
                      exact zH_some ⟨h_282, show (0 : Int32).toInt = 0 ∨ (0 : Int32).toInt = 1 from by have q_285 : ((0 : Int32)).toInt = (0 : Int) := (iL (0) (0) rfl); omega⟩
                    · exact zH_some ⟨h_282, show (1 : Int32).toInt = 0 ∨ (1 : Int32).toInt = 1 from by have q_286 : ((1 : Int32)).toInt = (1 : Int) := (iL (1) (1) rfl); omega⟩
                  · have q_287 : (8 : Int32).toInt = (8 : Int) := (iL (8) (8) rfl)
                    refine zH_bp (tX7_number h_268.hl h_268.jl) (fun x_288 μ_289 p_290 => ?_)
                    have h_291 : J false L M μ_289 := h_268.lex p_290.1
                    have q_292 : x_288.toInt = -1 ∨ ((1 : Int32).toInt ≤ x_288.toInt ∧ x_288.toInt ≤ (8 : Int32).toInt) := p_290.2
                    unfold fX2_readGroup_n134
                    have w2 : (2 : Int32).toInt = 2 := rfl
                    have w3 : (μ 19 (2 : Int32).toNatClampNeg).toInt = (μ 19 2).toInt := rfl
                    refine zH_ck (zIn (rfl : x_1.toInt = _) (by omega) (by omega)) ?_
                    refine zH_lt (fun μ_293 e_294 => ?_)
                    have h_295 : J false L M μ_293 := by rw [e_294]; exact J.upf h_291 (a := 21) (k := (1, 5)) rfl (fx0 (by decide) (by decide)) (by decide) (by decide) (Or.inl (by decide)) rfl
                    refine zH_ck (zIn (rfl : x_1.toInt = _) (by omega) (by omega)) ?_
                    refine zH_lt (fun μ_296 e_297 => ?_)
                    have h_298 : J false L M μ_296 := by rw [e_297]; exact J.upf h_295 (a := 22) (k := (1, 5)) rfl (fx0 (by decide) (by decide)) (by decide) (by decide) (Or.inl (by decide)) rfl
                    refine zH_ck (zIn (rfl : x_1.toInt = _) (by omega) (by omega)) ?_
                    refine zH_lt (fun μ_299 e_300 => ?_)
                    have h_301 : J false L M μ_299 := by rw [e_300]; exact J.upf h_298 (a := 23) (k := (1, 5)) rfl (fx0 (by decide) (by decide)) (by decide) (by decide) (Or.inl (by decide)) rfl
                    refine zH_ck (zIn (rfl : x_1.toInt = _) (by omega) (by omega)) ?_
                    refine zH_lt (fun μ_302 e_303 => ?_)
                    have h_304 : J false L M μ_302 := by rw [e_303]; exact J.upf h_301 (a := 24) (k := (1, 5)) rfl (fx0 (by decide) (by decide)) (by decide) (by decide) (Or.inl (by decide)) rfl
                    refine zH_eqc (rfl : x_288.toInt = _) (iL (-1) (-1) rfl) (fun c_305e c_305 => ?_) (fun c_305e c_305 => ?_)
                    · have q_306 : (0 : Int32).toInt = (0 : Int) := (iL (0) (0) rfl)
                      exact zH_some ⟨h_304, show (0 : Int32).toInt = 0 ∨ (0 : Int32).toInt = 1 from by have q_307 : ((0 : Int32)).toInt = (0 : Int) := (iL (0) (0) rfl); omega⟩
                    · exact zH_some ⟨h_304, show (1 : Int32).toInt = 0 ∨ (1 : Int32).toInt = 1 from by have q_308 : ((1 : Int32)).toInt = (1 : Int) := (iL (1) (1) rfl); omega⟩
            · unfold fX2_readGroup_n96
              have w2 : (2 : Int32).toInt = 2 := rfl
              have w3 : (μ 19 (2 : Int32).toNatClampNeg).toInt = (μ 19 2).toInt := rfl
              refine zH_eqc (rfl : x_25.toInt = _) (iL (-1) (-1) rfl) (fun c_309e c_309 => ?_) (fun c_309e c_309 => ?_)
              · have q_310 : (0 : Int32).toInt = (0 : Int) := (iL (0) (0) rfl)
                exact zH_some ⟨h_255, show (0 : Int32).toInt = 0 ∨ (0 : Int32).toInt = 1 from by have q_311 : ((0 : Int32)).toInt = (0 : Int) := (iL (0) (0) rfl); omega⟩
              · refine zH_eqc (iL (0) (0) rfl) (iL (-1) (-1) rfl) (fun c_312e c_312 => ?_) (fun c_312e c_312 => ?_)
                · have q_313 : (0 : Int32).toInt = (0 : Int) := (iL (0) (0) rfl)
                  exact zH_some ⟨h_255, show (0 : Int32).toInt = 0 ∨ (0 : Int32).toInt = 1 from by have q_314 : ((0 : Int32)).toInt = (0 : Int) := (iL (0) (0) rfl); omega⟩
                · have q_315 : (6 : Int32).toInt = (6 : Int) := (iL (6) (6) rfl)
                  refine zH_bp (tX7_passIfThere h_255.hl h_255.jl) (fun x_316 μ_317 p_318 => ?_)
                  have h_319 : J false L M μ_317 := h_255.lex p_318.1
                  have q_320 : x_316.toInt = 0 ∨ x_316.toInt = 1 := p_318.2
                  refine zH_eqc (rfl : x_316.toInt = _) (iL (0) (0) rfl) (fun c_321e c_321 => ?_) (fun c_321e c_321 => ?_)
                  · unfold fX2_readGroup_n134
                    have w2 : (2 : Int32).toInt = 2 := rfl
                    have w3 : (μ 19 (2 : Int32).toNatClampNeg).toInt = (μ 19 2).toInt := rfl
                    refine zH_ck (zIn (rfl : x_1.toInt = _) (by omega) (by omega)) ?_
                    refine zH_lt (fun μ_322 e_323 => ?_)
                    have h_324 : J false L M μ_322 := by rw [e_323]; exact J.upf h_319 (a := 21) (k := (1, 5)) rfl (fx0 (by decide) (by decide)) (by decide) (by decide) (Or.inl (by decide)) rfl
                    refine zH_ck (zIn (rfl : x_1.toInt = _) (by omega) (by omega)) ?_
                    refine zH_lt (fun μ_325 e_326 => ?_)
                    have h_327 : J false L M μ_325 := by rw [e_326]; exact J.upf h_324 (a := 22) (k := (1, 5)) rfl (fx0 (by decide) (by decide)) (by decide) (by decide) (Or.inl (by decide)) rfl
                    refine zH_ck (zIn (rfl : x_1.toInt = _) (by omega) (by omega)) ?_
                    refine zH_lt (fun μ_328 e_329 => ?_)
                    have h_330 : J false L M μ_328 := by rw [e_329]; exact J.upf h_327 (a := 23) (k := (1, 5)) rfl (fx0 (by decide) (by decide)) (by decide) (by decide) (Or.inl (by decide)) rfl
                    refine zH_ck (zIn (rfl : x_1.toInt = _) (by omega) (by omega)) ?_
                    refine zH_lt (fun μ_331 e_332 => ?_)
                    have h_333 : J false L M μ_331 := by rw [e_332]; exact J.upf h_330 (a := 24) (k := (1, 5)) rfl (fx0 (by decide) (by decide)) (by decide) (by decide) (Or.inl (by decide)) rfl
                    refine zH_eqc (iL (1) (1) rfl) (iL (-1) (-1) rfl) (fun c_334e c_334 => ?_) (fun c_334e c_334 => ?_)
                    · have q_335 : (0 : Int32).toInt = (0 : Int) := (iL (0) (0) rfl)
                      exact zH_some ⟨h_333, show (0 : Int32).toInt = 0 ∨ (0 : Int32).toInt = 1 from by have q_336 : ((0 : Int32)).toInt = (0 : Int) := (iL (0) (0) rfl); omega⟩
                    · exact zH_some ⟨h_333, show (1 : Int32).toInt = 0 ∨ (1 : Int32).toInt = 1 from by have q_337 : ((1 : Int32)).toInt = (1 : Int) := (iL (1) (1) rfl); omega⟩
                  · have q_338 : (8 : Int32).toInt = (8 : Int) := (iL (8) (8) rfl)
                    refine zH_bp (tX7_number h_319.hl h_319.jl) (fun x_339 μ_340 p_341 => ?_)
                    have h_342 : J false L M μ_340 := h_319.lex p_341.1
                    have q_343 : x_339.toInt = -1 ∨ ((1 : Int32).toInt ≤ x_339.toInt ∧ x_339.toInt ≤ (8 : Int32).toInt) := p_341.2
                    unfold fX2_readGroup_n134
                    have w2 : (2 : Int32).toInt = 2 := rfl
                    have w3 : (μ 19 (2 : Int32).toNatClampNeg).toInt = (μ 19 2).toInt := rfl
                    refine zH_ck (zIn (rfl : x_1.toInt = _) (by omega) (by omega)) ?_
                    refine zH_lt (fun μ_344 e_345 => ?_)
                    have h_346 : J false L M μ_344 := by rw [e_345]; exact J.upf h_342 (a := 21) (k := (1, 5)) rfl (fx0 (by decide) (by decide)) (by decide) (by decide) (Or.inl (by decide)) rfl
                    refine zH_ck (zIn (rfl : x_1.toInt = _) (by omega) (by omega)) ?_
                    refine zH_lt (fun μ_347 e_348 => ?_)
                    have h_349 : J false L M μ_347 := by rw [e_348]; exact J.upf h_346 (a := 22) (k := (1, 5)) rfl (fx0 (by decide) (by decide)) (by decide) (by decide) (Or.inl (by decide)) rfl
                    refine zH_ck (zIn (rfl : x_1.toInt = _) (by omega) (by omega)) ?_
                    refine zH_lt (fun μ_350 e_351 => ?_)
                    have h_352 : J false L M μ_350 := by rw [e_351]; exact J.upf h_349 (a := 23) (k := (1, 5)) rfl (fx0 (by decide) (by decide)) (by decide) (by decide) (Or.inl (by decide)) rfl
                    refine zH_ck (zIn (rfl : x_1.toInt = _) (by omega) (by omega)) ?_
                    refine zH_lt (fun μ_353 e_354 => ?_)
                    have h_355 : J false L M μ_353 := by rw [e_354]; exact J.upf h_352 (a := 24) (k := (1, 5)) rfl (fx0 (by decide) (by decide)) (by decide) (by decide) (Or.inl (by decide)) rfl
                    refine zH_eqc (rfl : x_339.toInt = _) (iL (-1) (-1) rfl) (fun c_356e c_356 => ?_) (fun c_356e c_356 => ?_)
                    · have q_357 : (0 : Int32).toInt = (0 : Int) := (iL (0) (0) rfl)
                      exact zH_some ⟨h_355, show (0 : Int32).toInt = 0 ∨ (0 : Int32).toInt = 1 from by have q_358 : ((0 : Int32)).toInt = (0 : Int) := (iL (0) (0) rfl); omega⟩
                    · exact zH_some ⟨h_355, show (1 : Int32).toInt = 0 ∨ (1 : Int32).toInt = 1 from by have q_359 : ((1 : Int32)).toInt = (1 : Int) := (iL (1) (1) rfl); omega⟩
        · have q_360 : (0 : Int32).toInt = (0 : Int) := (iL (0) (0) rfl)
          have q_361 : (99 : Int32).toInt = (99 : Int) := (iL (99) (99) rfl)
          refine zH_bp (tX7_number h_196.hl h_196.jl) (fun x_362 μ_363 p_364 => ?_)
          have h_365 : J false L M μ_363 := h_196.lex p_364.1
          have q_366 : x_362.toInt = -1 ∨ ((0 : Int32).toInt ≤ x_362.toInt ∧ x_362.toInt ≤ (99 : Int32).toInt) := p_364.2
          unfold fX2_readGroup_n96
          have w2 : (2 : Int32).toInt = 2 := rfl
          have w3 : (μ 19 (2 : Int32).toNatClampNeg).toInt = (μ 19 2).toInt := rfl
          refine zH_eqc (rfl : x_25.toInt = _) (iL (-1) (-1) rfl) (fun c_367e c_367 => ?_) (fun c_367e c_367 => ?_)
          · exact zH_some ⟨h_365, show (0 : Int32).toInt = 0 ∨ (0 : Int32).toInt = 1 from by have q_368 : ((0 : Int32)).toInt = (0 : Int) := (iL (0) (0) rfl); omega⟩
          · refine zH_eqc (rfl : x_362.toInt = _) (iL (-1) (-1) rfl) (fun c_369e c_369 => ?_) (fun c_369e c_369 => ?_)
            · exact zH_some ⟨h_365, show (0 : Int32).toInt = 0 ∨ (0 : Int32).toInt = 1 from by have q_370 : ((0 : Int32)).toInt = (0 : Int) := (iL (0) (0) rfl); omega⟩
            · have q_371 : (6 : Int32).toInt = (6 : Int) := (iL (6) (6) rfl)
              refine zH_bp (tX7_passIfThere h_365.hl h_365.jl) (fun x_372 μ_373 p_374 => ?_)
              have h_375 : J false L M μ_373 := h_365.lex p_374.1
              have q_376 : x_372.toInt = 0 ∨ x_372.toInt = 1 := p_374.2
              refine zH_eqc (rfl : x_372.toInt = _) (iL (0) (0) rfl) (fun c_377e c_377 => ?_) (fun c_377e c_377 => ?_)
              · unfold fX2_readGroup_n134
                have w2 : (2 : Int32).toInt = 2 := rfl
                have w3 : (μ 19 (2 : Int32).toNatClampNeg).toInt = (μ 19 2).toInt := rfl
                refine zH_ck (zIn (rfl : x_1.toInt = _) (by omega) (by omega)) ?_
                refine zH_lt (fun μ_378 e_379 => ?_)
                have h_380 : J false L M μ_378 := by rw [e_379]; exact J.upf h_375 (a := 21) (k := (1, 5)) rfl (fx0 (by decide) (by decide)) (by decide) (by decide) (Or.inl (by decide)) rfl
                refine zH_ck (zIn (rfl : x_1.toInt = _) (by omega) (by omega)) ?_
                refine zH_lt (fun μ_381 e_382 => ?_)
                have h_383 : J false L M μ_381 := by rw [e_382]; exact J.upf h_380 (a := 22) (k := (1, 5)) rfl (fx0 (by decide) (by decide)) (by decide) (by decide) (Or.inl (by decide)) rfl
                refine zH_ck (zIn (rfl : x_1.toInt = _) (by omega) (by omega)) ?_
                refine zH_lt (fun μ_384 e_385 => ?_)
                have h_386 : J false L M μ_384 := by rw [e_385]; exact J.upf h_383 (a := 23) (k := (1, 5)) rfl (fx0 (by decide) (by decide)) (by decide) (by decide) (Or.inl (by decide)) rfl
                refine zH_ck (zIn (rfl : x_1.toInt = _) (by omega) (by omega)) ?_
                refine zH_lt (fun μ_387 e_388 => ?_)
                have h_389 : J false L M μ_387 := by rw [e_388]; exact J.upf h_386 (a := 24) (k := (1, 5)) rfl (fx0 (by decide) (by decide)) (by decide) (by decide) (Or.inl (by decide)) rfl
                refine zH_eqc (iL (1) (1) rfl) (iL (-1) (-1) rfl) (fun c_390e c_390 => ?_) (fun c_390e c_390 => ?_)
                · exact zH_some ⟨h_389, show (0 : Int32).toInt = 0 ∨ (0 : Int32).toInt = 1 from by have q_391 : ((0 : Int32)).toInt = (0 : Int) := (iL (0) (0) rfl); omega⟩
                · exact zH_some ⟨h_389, show (1 : Int32).toInt = 0 ∨ (1 : Int32).toInt = 1 from by have q_392 : ((1 : Int32)).toInt = (1 : Int) := (iL (1) (1) rfl); omega⟩
              · have q_393 : (8 : Int32).toInt = (8 : Int) := (iL (8) (8) rfl)
                refine zH_bp (tX7_number h_375.hl h_375.jl) (fun x_394 μ_395 p_396 => ?_)
                have h_397 : J false L M μ_395 := h_375.lex p_396.1
                have q_398 : x_394.toInt = -1 ∨ ((1 : Int32).toInt ≤ x_394.toInt ∧ x_394.toInt ≤ (8 : Int32).toInt) := p_396.2
                unfold fX2_readGroup_n134
                have w2 : (2 : Int32).toInt = 2 := rfl
                have w3 : (μ 19 (2 : Int32).toNatClampNeg).toInt = (μ 19 2).toInt := rfl
                refine zH_ck (zIn (rfl : x_1.toInt = _) (by omega) (by omega)) ?_
                refine zH_lt (fun μ_399 e_400 => ?_)
                have h_401 : J false L M μ_399 := by rw [e_400]; exact J.upf h_397 (a := 21) (k := (1, 5)) rfl (fx0 (by decide) (by decide)) (by decide) (by decide) (Or.inl (by decide)) rfl
                refine zH_ck (zIn (rfl : x_1.toInt = _) (by omega) (by omega)) ?_
                refine zH_lt (fun μ_402 e_403 => ?_)
                have h_404 : J false L M μ_402 := by rw [e_403]; exact J.upf h_401 (a := 22) (k := (1, 5)) rfl (fx0 (by decide) (by decide)) (by decide) (by decide) (Or.inl (by decide)) rfl
                refine zH_ck (zIn (rfl : x_1.toInt = _) (by omega) (by omega)) ?_
                refine zH_lt (fun μ_405 e_406 => ?_)
                have h_407 : J false L M μ_405 := by rw [e_406]; exact J.upf h_404 (a := 23) (k := (1, 5)) rfl (fx0 (by decide) (by decide)) (by decide) (by decide) (Or.inl (by decide)) rfl
                refine zH_ck (zIn (rfl : x_1.toInt = _) (by omega) (by omega)) ?_
                refine zH_lt (fun μ_408 e_409 => ?_)
                have h_410 : J false L M μ_408 := by rw [e_409]; exact J.upf h_407 (a := 24) (k := (1, 5)) rfl (fx0 (by decide) (by decide)) (by decide) (by decide) (Or.inl (by decide)) rfl
                refine zH_eqc (rfl : x_394.toInt = _) (iL (-1) (-1) rfl) (fun c_411e c_411 => ?_) (fun c_411e c_411 => ?_)
                · exact zH_some ⟨h_410, show (0 : Int32).toInt = 0 ∨ (0 : Int32).toInt = 1 from by have q_412 : ((0 : Int32)).toInt = (0 : Int) := (iL (0) (0) rfl); omega⟩
                · exact zH_some ⟨h_410, show (1 : Int32).toInt = 0 ∨ (1 : Int32).toInt = 1 from by have q_413 : ((1 : Int32)).toInt = (1 : Int) := (iL (1) (1) rfl); omega⟩
theorem tX2_readMember {L : Int32} {M : gM} {μ : gM}  (h : J false L M μ)  : zH (fX2_readMember μ) (fun r => J false L M r.2 ∧ (r.1.toInt = 0 ∨ r.1.toInt = 1)) := by
  unfold fX2_readMember
  refine zH_lt (fun x_1 e_2 => ?_)
  have q_3 : (0 : Int32).toInt = (0 : Int) := (iL (0) (0) rfl)
  refine zH_bp (tX7_known h.hl (Or.inr rfl) h.nb18 h.jl) (fun x_4 μ_5 p_6 => ?_)
  have h_7 : J false L M μ_5 := h.lex p_6.1
  have q_8 : x_4.toInt = -1 ∨ (0 ≤ x_4.toInt ∧ x_4.toInt < 8 ∧ ((0 : Int32).toInt = 0 → x_4.toInt < 6) ∧ ((0 : Int32).toInt = 2 → x_4.toInt < 5)) := p_6.2
  refine zH_eqc (rfl : x_4.toInt = _) (iL (-1) (-1) rfl) (fun c_9e c_9 => ?_) (fun c_9e c_9 => ?_)
  · exact zH_some ⟨h_7, show (0 : Int32).toInt = 0 ∨ (0 : Int32).toInt = 1 from by have q_10 : ((0 : Int32)).toInt = (0 : Int) := (iL (0) (0) rfl); omega⟩
  · have q_11 : (8 : Int32).toInt = (8 : Int) := (iL (8) (8) rfl)
    refine zH_bp (tX7_pass h_7.hl h_7.jl) (fun x_12 μ_13 p_14 => ?_)
    have h_15 : J false L M μ_13 := h_7.lex p_14.1
    have q_16 : x_12.toInt = 0 ∨ x_12.toInt = 1 := p_14.2
    refine zH_eqc (rfl : x_12.toInt = _) (iL (0) (0) rfl) (fun c_17e c_17 => ?_) (fun c_17e c_17 => ?_)
    · exact zH_some ⟨h_15, show (0 : Int32).toInt = 0 ∨ (0 : Int32).toInt = 1 from by have q_18 : ((0 : Int32)).toInt = (0 : Int) := (iL (0) (0) rfl); omega⟩
    · have q_19 : (2 : Int32).toInt = (2 : Int) := (iL (2) (2) rfl)
      refine zH_bp (tX7_known h_15.hl (Or.inr rfl) h_15.nb18 h_15.jl) (fun x_20 μ_21 p_22 => ?_)
      have h_23 : J false L M μ_21 := h_15.lex p_22.1
      have q_24 : x_20.toInt = -1 ∨ (0 ≤ x_20.toInt ∧ x_20.toInt < 8 ∧ ((2 : Int32).toInt = 0 → x_20.toInt < 6) ∧ ((2 : Int32).toInt = 2 → x_20.toInt < 5)) := p_22.2
      refine zH_eqc (rfl : x_20.toInt = _) (iL (-1) (-1) rfl) (fun c_25e c_25 => ?_) (fun c_25e c_25 => ?_)
      · exact zH_some ⟨h_23, show (0 : Int32).toInt = 0 ∨ (0 : Int32).toInt = 1 from by have q_26 : ((0 : Int32)).toInt = (0 : Int) := (iL (0) (0) rfl); omega⟩
      · refine zH_bd (tX1_isMember h_23.nb18) (fun x_27 p_28 => ?_)
        have q_29 : (x_27.toInt = 0 ∨ x_27.toInt = 1) ∧ (x_27.toInt = 1 → 0 ≤ x_20.toInt ∧ x_20.toInt ≤ 4 ∧ 0 ≤ x_4.toInt ∧ x_4.toInt ≤ 5) := p_28
        refine zH_eqc (rfl : x_27.toInt = _) (iL (0) (0) rfl) (fun c_30e c_30 => ?_) (fun c_30e c_30 => ?_)
        · have q_31 : (9 : Int32).toInt = (9 : Int) := (iL (9) (9) rfl)
          refine zH_bp (tX7_pass h_23.hl h_23.jl) (fun x_32 μ_33 p_34 => ?_)
          have h_35 : J false L M μ_33 := h_23.lex p_34.1
          have q_36 : x_32.toInt = 0 ∨ x_32.toInt = 1 := p_34.2
          refine zH_eqc (rfl : x_32.toInt = _) (iL (0) (0) rfl) (fun c_37e c_37 => ?_) (fun c_37e c_37 => ?_)
          · unfold fX2_readMember_n109
            refine zH_eqc (iL (-1) (-1) rfl) (iL (-1) (-1) rfl) (fun c_38e c_38 => ?_) (fun c_38e c_38 => ?_)
            · exact zH_some ⟨h_35, show (0 : Int32).toInt = 0 ∨ (0 : Int32).toInt = 1 from by have q_39 : ((0 : Int32)).toInt = (0 : Int) := (iL (0) (0) rfl); omega⟩
            · have q_40 : (10 : Int32).toInt = (10 : Int) := (iL (10) (10) rfl)
              refine zH_bp (tX7_passIfThere h_35.hl h_35.jl) (fun x_41 μ_42 p_43 => ?_)
              have h_44 : J false L M μ_42 := h_35.lex p_43.1
              have q_45 : x_41.toInt = 0 ∨ x_41.toInt = 1 := p_43.2
              refine zH_eqc (rfl : x_41.toInt = _) (iL (0) (0) rfl) (fun c_46e c_46 => ?_) (fun c_46e c_46 => ?_)
              · unfold fX2_readMember_n145
                refine zH_ck (zIn (rfl : x_20.toInt = _) (by omega) (by omega)) ?_
                refine zH_ck (zIn (rfl : x_20.toInt = _) (by omega) (by omega)) ?_
                refine zH_lt (fun μ_47 e_48 => ?_)
                have h_49 : J false L M μ_47 := by rw [e_48]; exact J.upf h_44 (a := 25) (k := (1, 5)) rfl (fx0 (by decide) (by decide)) (by decide) (by decide) (Or.inl (by decide)) rfl
                refine zH_ck (zIn (iA (iM (rfl : x_20.toInt = _) (iL (6) (6) rfl) (by omega) (by omega)) (rfl : x_4.toInt = _) (by omega) (by omega)) (by omega) (by omega)) ?_
                refine zH_lt (fun μ_50 e_51 => ?_)
                have h_52 : J false L M μ_50 := by rw [e_51]; exact J.upf h_49 (a := 26) (k := (1, 30)) rfl (fx0 (by decide) (by decide)) (by decide) (by decide) (Or.inl (by decide)) rfl
                refine zH_ck (zIn (iA (iM (rfl : x_20.toInt = _) (iL (6) (6) rfl) (by omega) (by omega)) (rfl : x_4.toInt = _) (by omega) (by omega)) (by omega) (by omega)) ?_
                refine zH_lt (fun μ_53 e_54 => ?_)
                have h_55 : J false L M μ_53 := by rw [e_54]; exact J.upf h_52 (a := 27) (k := (1, 30)) rfl (fx0 (by decide) (by decide)) (by decide) (by decide) (Or.inl (by decide)) rfl
                refine zH_eqc (iL (1) (1) rfl) (iL (-1) (-1) rfl) (fun c_56e c_56 => ?_) (fun c_56e c_56 => ?_)
                · exact zH_some ⟨h_55, show (0 : Int32).toInt = 0 ∨ (0 : Int32).toInt = 1 from by have q_57 : ((0 : Int32)).toInt = (0 : Int) := (iL (0) (0) rfl); omega⟩
                · have q_58 : (1 : Int32).toInt = (1 : Int) := (iL (1) (1) rfl)
                  exact zH_some ⟨h_55, show (1 : Int32).toInt = 0 ∨ (1 : Int32).toInt = 1 from by have q_59 : ((1 : Int32)).toInt = (1 : Int) := (iL (1) (1) rfl); omega⟩
              · have q_60 : (99 : Int32).toInt = (99 : Int) := (iL (99) (99) rfl)
                refine zH_bp (tX7_number h_44.hl h_44.jl) (fun x_61 μ_62 p_63 => ?_)
                have h_64 : J false L M μ_62 := h_44.lex p_63.1
                have q_65 : x_61.toInt = -1 ∨ ((0 : Int32).toInt ≤ x_61.toInt ∧ x_61.toInt ≤ (99 : Int32).toInt) := p_63.2
                unfold fX2_readMember_n145
                refine zH_ck (zIn (rfl : x_20.toInt = _) (by omega) (by omega)) ?_
                refine zH_ck (zIn (rfl : x_20.toInt = _) (by omega) (by omega)) ?_
                refine zH_lt (fun μ_66 e_67 => ?_)
                have h_68 : J false L M μ_66 := by rw [e_67]; exact J.upf h_64 (a := 25) (k := (1, 5)) rfl (fx0 (by decide) (by decide)) (by decide) (by decide) (Or.inl (by decide)) rfl
                refine zH_ck (zIn (iA (iM (rfl : x_20.toInt = _) (iL (6) (6) rfl) (by omega) (by omega)) (rfl : x_4.toInt = _) (by omega) (by omega)) (by omega) (by omega)) ?_
                refine zH_lt (fun μ_69 e_70 => ?_)
                have h_71 : J false L M μ_69 := by rw [e_70]; exact J.upf h_68 (a := 26) (k := (1, 30)) rfl (fx0 (by decide) (by decide)) (by decide) (by decide) (Or.inl (by decide)) rfl
                refine zH_ck (zIn (iA (iM (rfl : x_20.toInt = _) (iL (6) (6) rfl) (by omega) (by omega)) (rfl : x_4.toInt = _) (by omega) (by omega)) (by omega) (by omega)) ?_
                refine zH_lt (fun μ_72 e_73 => ?_)
                have h_74 : J false L M μ_72 := by rw [e_73]; exact J.upf h_71 (a := 27) (k := (1, 30)) rfl (fx0 (by decide) (by decide)) (by decide) (by decide) (Or.inl (by decide)) rfl
                refine zH_eqc (rfl : x_61.toInt = _) (iL (-1) (-1) rfl) (fun c_75e c_75 => ?_) (fun c_75e c_75 => ?_)
                · exact zH_some ⟨h_74, show (0 : Int32).toInt = 0 ∨ (0 : Int32).toInt = 1 from by have q_76 : ((0 : Int32)).toInt = (0 : Int) := (iL (0) (0) rfl); omega⟩
                · have q_77 : (1 : Int32).toInt = (1 : Int) := (iL (1) (1) rfl)
                  exact zH_some ⟨h_74, show (1 : Int32).toInt = 0 ∨ (1 : Int32).toInt = 1 from by have q_78 : ((1 : Int32)).toInt = (1 : Int) := (iL (1) (1) rfl); omega⟩
          · have q_79 : (1 : Int32).toInt = (1 : Int) := (iL (1) (1) rfl)
            have q_80 : (255 : Int32).toInt = (255 : Int) := (iL (255) (255) rfl)
            refine zH_bp (tX7_number h_35.hl h_35.jl) (fun x_81 μ_82 p_83 => ?_)
            have h_84 : J false L M μ_82 := h_35.lex p_83.1
            have q_85 : x_81.toInt = -1 ∨ ((1 : Int32).toInt ≤ x_81.toInt ∧ x_81.toInt ≤ (255 : Int32).toInt) := p_83.2
            unfold fX2_readMember_n109
            refine zH_eqc (rfl : x_81.toInt = _) (iL (-1) (-1) rfl) (fun c_86e c_86 => ?_) (fun c_86e c_86 => ?_)
            · exact zH_some ⟨h_84, show (0 : Int32).toInt = 0 ∨ (0 : Int32).toInt = 1 from by have q_87 : ((0 : Int32)).toInt = (0 : Int) := (iL (0) (0) rfl); omega⟩
            · have q_88 : (10 : Int32).toInt = (10 : Int) := (iL (10) (10) rfl)
              refine zH_bp (tX7_passIfThere h_84.hl h_84.jl) (fun x_89 μ_90 p_91 => ?_)
              have h_92 : J false L M μ_90 := h_84.lex p_91.1
              have q_93 : x_89.toInt = 0 ∨ x_89.toInt = 1 := p_91.2
              refine zH_eqc (rfl : x_89.toInt = _) (iL (0) (0) rfl) (fun c_94e c_94 => ?_) (fun c_94e c_94 => ?_)
              · unfold fX2_readMember_n145
                refine zH_ck (zIn (rfl : x_20.toInt = _) (by omega) (by omega)) ?_
                refine zH_ck (zIn (rfl : x_20.toInt = _) (by omega) (by omega)) ?_
                refine zH_lt (fun μ_95 e_96 => ?_)
                have h_97 : J false L M μ_95 := by rw [e_96]; exact J.upf h_92 (a := 25) (k := (1, 5)) rfl (fx0 (by decide) (by decide)) (by decide) (by decide) (Or.inl (by decide)) rfl
                refine zH_ck (zIn (iA (iM (rfl : x_20.toInt = _) (iL (6) (6) rfl) (by omega) (by omega)) (rfl : x_4.toInt = _) (by omega) (by omega)) (by omega) (by omega)) ?_
                refine zH_lt (fun μ_98 e_99 => ?_)
                have h_100 : J false L M μ_98 := by rw [e_99]; exact J.upf h_97 (a := 26) (k := (1, 30)) rfl (fx0 (by decide) (by decide)) (by decide) (by decide) (Or.inl (by decide)) rfl
                refine zH_ck (zIn (iA (iM (rfl : x_20.toInt = _) (iL (6) (6) rfl) (by omega) (by omega)) (rfl : x_4.toInt = _) (by omega) (by omega)) (by omega) (by omega)) ?_
                refine zH_lt (fun μ_101 e_102 => ?_)
                have h_103 : J false L M μ_101 := by rw [e_102]; exact J.upf h_100 (a := 27) (k := (1, 30)) rfl (fx0 (by decide) (by decide)) (by decide) (by decide) (Or.inl (by decide)) rfl
                refine zH_eqc (iL (1) (1) rfl) (iL (-1) (-1) rfl) (fun c_104e c_104 => ?_) (fun c_104e c_104 => ?_)
                · exact zH_some ⟨h_103, show (0 : Int32).toInt = 0 ∨ (0 : Int32).toInt = 1 from by have q_105 : ((0 : Int32)).toInt = (0 : Int) := (iL (0) (0) rfl); omega⟩
                · exact zH_some ⟨h_103, show (1 : Int32).toInt = 0 ∨ (1 : Int32).toInt = 1 from by have q_106 : ((1 : Int32)).toInt = (1 : Int) := (iL (1) (1) rfl); omega⟩
              · have q_107 : (99 : Int32).toInt = (99 : Int) := (iL (99) (99) rfl)
                refine zH_bp (tX7_number h_92.hl h_92.jl) (fun x_108 μ_109 p_110 => ?_)
                have h_111 : J false L M μ_109 := h_92.lex p_110.1
                have q_112 : x_108.toInt = -1 ∨ ((0 : Int32).toInt ≤ x_108.toInt ∧ x_108.toInt ≤ (99 : Int32).toInt) := p_110.2
                unfold fX2_readMember_n145
                refine zH_ck (zIn (rfl : x_20.toInt = _) (by omega) (by omega)) ?_
                refine zH_ck (zIn (rfl : x_20.toInt = _) (by omega) (by omega)) ?_
                refine zH_lt (fun μ_113 e_114 => ?_)
                have h_115 : J false L M μ_113 := by rw [e_114]; exact J.upf h_111 (a := 25) (k := (1, 5)) rfl (fx0 (by decide) (by decide)) (by decide) (by decide) (Or.inl (by decide)) rfl
                refine zH_ck (zIn (iA (iM (rfl : x_20.toInt = _) (iL (6) (6) rfl) (by omega) (by omega)) (rfl : x_4.toInt = _) (by omega) (by omega)) (by omega) (by omega)) ?_
                refine zH_lt (fun μ_116 e_117 => ?_)
                have h_118 : J false L M μ_116 := by rw [e_117]; exact J.upf h_115 (a := 26) (k := (1, 30)) rfl (fx0 (by decide) (by decide)) (by decide) (by decide) (Or.inl (by decide)) rfl
                refine zH_ck (zIn (iA (iM (rfl : x_20.toInt = _) (iL (6) (6) rfl) (by omega) (by omega)) (rfl : x_4.toInt = _) (by omega) (by omega)) (by omega) (by omega)) ?_
                refine zH_lt (fun μ_119 e_120 => ?_)
                have h_121 : J false L M μ_119 := by rw [e_120]; exact J.upf h_118 (a := 27) (k := (1, 30)) rfl (fx0 (by decide) (by decide)) (by decide) (by decide) (Or.inl (by decide)) rfl
                refine zH_eqc (rfl : x_108.toInt = _) (iL (-1) (-1) rfl) (fun c_122e c_122 => ?_) (fun c_122e c_122 => ?_)
                · exact zH_some ⟨h_121, show (0 : Int32).toInt = 0 ∨ (0 : Int32).toInt = 1 from by have q_123 : ((0 : Int32)).toInt = (0 : Int) := (iL (0) (0) rfl); omega⟩
                · exact zH_some ⟨h_121, show (1 : Int32).toInt = 0 ∨ (1 : Int32).toInt = 1 from by have q_124 : ((1 : Int32)).toInt = (1 : Int) := (iL (1) (1) rfl); omega⟩
        · have q_125 : (5 : Int32).toInt = (5 : Int) := (iL (5) (5) rfl)
          refine zH_bp (tX7_refuse h_23.hl h_23.jl) (fun x_126 μ_127 p_128 => ?_)
          have h_129 : J false L M μ_127 := h_23.lex p_128.1
          have q_130 : x_126.toInt = 0 := p_128.2
          refine zH_ck (zBo (show (x_126).toInt = 0 ∨ (x_126).toInt = 1 from by have q_131 : (x_126).toInt = x_126.toInt := (rfl : x_126.toInt = _); omega)) ?_
          exact zH_some ⟨h_129, show x_126.toInt = 0 ∨ x_126.toInt = 1 from by have q_132 : (x_126).toInt = x_126.toInt := (rfl : x_126.toInt = _); omega⟩
theorem tX2_readTrack {L : Int32} {M : gM} {μ : gM}  (h : J false L M μ) (g0 : (μ 18 10).toInt < 24) : zH (fX2_readTrack μ) (fun r => J false L M r.2 ∧ (r.1.toInt = 0 ∨ r.1.toInt = 1)) := by
  unfold fX2_readTrack
  refine zH_bp (tX7_knownMember h.hl (Or.inr rfl) h.nb18 h.jl) (fun x_1 μ_2 p_3 => ?_)
  have h_4 : J false L M μ_2 := h.lex p_3.1
  have q_5 : (μ_2 18 10).toInt = (μ 18 10).toInt := congrArg Int32.toInt (congrFun (p_3.1.1 18 (by decide)) (10))
  have q_6 : x_1.toInt = -1 ∨ (0 ≤ x_1.toInt ∧ x_1.toInt ≤ 29) := p_3.2
  refine zH_eqc (rfl : x_1.toInt = _) (iL (-1) (-1) rfl) (fun c_7e c_7 => ?_) (fun c_7e c_7 => ?_)
  · have q_8 : (0 : Int32).toInt = (0 : Int) := (iL (0) (0) rfl)
    exact zH_some ⟨h_4, show (0 : Int32).toInt = 0 ∨ (0 : Int32).toInt = 1 from by have q_9 : ((0 : Int32)).toInt = (0 : Int) := (iL (0) (0) rfl); omega⟩
  · have q_10 : (12 : Int32).toInt = (12 : Int) := (iL (12) (12) rfl)
    refine zH_bp (tX7_pass h_4.hl h_4.jl) (fun x_11 μ_12 p_13 => ?_)
    have h_14 : J false L M μ_12 := h_4.lex p_13.1
    have q_15 : (μ_12 18 10).toInt = (μ_2 18 10).toInt := congrArg Int32.toInt (congrFun (p_13.1.1 18 (by decide)) (10))
    have q_16 : x_11.toInt = 0 ∨ x_11.toInt = 1 := p_13.2
    refine zH_eqc (rfl : x_11.toInt = _) (iL (0) (0) rfl) (fun c_17e c_17 => ?_) (fun c_17e c_17 => ?_)
    · have q_18 : (0 : Int32).toInt = (0 : Int) := (iL (0) (0) rfl)
      exact zH_some ⟨h_14, show (0 : Int32).toInt = 0 ∨ (0 : Int32).toInt = 1 from by have q_19 : ((0 : Int32)).toInt = (0 : Int) := (iL (0) (0) rfl); omega⟩
    · refine zH_lt (fun x_20 e_21 => ?_)
      have q_22 : (1 : Int32).toInt = (1 : Int) := (iL (1) (1) rfl)
      refine zH_bp (tX7_known h_14.hl (Or.inr rfl) h_14.nb18 h_14.jl) (fun x_23 μ_24 p_25 => ?_)
      have h_26 : J false L M μ_24 := h_14.lex p_25.1
      have q_27 : (μ_24 18 10).toInt = (μ_12 18 10).toInt := congrArg Int32.toInt (congrFun (p_25.1.1 18 (by decide)) (10))
      have q_28 : x_23.toInt = -1 ∨ (0 ≤ x_23.toInt ∧ x_23.toInt < 8 ∧ ((1 : Int32).toInt = 0 → x_23.toInt < 6) ∧ ((1 : Int32).toInt = 2 → x_23.toInt < 5)) := p_25.2
      refine zH_eqc (rfl : x_23.toInt = _) (iL (-1) (-1) rfl) (fun c_29e c_29 => ?_) (fun c_29e c_29 => ?_)
      · have q_30 : (0 : Int32).toInt = (0 : Int) := (iL (0) (0) rfl)
        exact zH_some ⟨h_26, show (0 : Int32).toInt = 0 ∨ (0 : Int32).toInt = 1 from by have q_31 : ((0 : Int32)).toInt = (0 : Int) := (iL (0) (0) rfl); omega⟩
      · refine zH_bd (tX1_isTracked) (fun x_32 p_33 => ?_)
        have q_34 : x_32.toInt = 0 ∨ x_32.toInt = 1 := p_33
        refine zH_eqc (rfl : x_32.toInt = _) (iL (0) (0) rfl) (fun c_35e c_35 => ?_) (fun c_35e c_35 => ?_)
        · have q_36 : (13 : Int32).toInt = (13 : Int) := (iL (13) (13) rfl)
          refine zH_bp (tX7_pass h_26.hl h_26.jl) (fun x_37 μ_38 p_39 => ?_)
          have h_40 : J false L M μ_38 := h_26.lex p_39.1
          have q_41 : (μ_38 18 10).toInt = (μ_24 18 10).toInt := congrArg Int32.toInt (congrFun (p_39.1.1 18 (by decide)) (10))
          have q_42 : x_37.toInt = 0 ∨ x_37.toInt = 1 := p_39.2
          refine zH_eqc (rfl : x_37.toInt = _) (iL (0) (0) rfl) (fun c_43e c_43 => ?_) (fun c_43e c_43 => ?_)
          · unfold fX2_readTrack_n108
            have f_46 : (0 : Int) ≤ (μ_38 18 10).toInt ∧ (μ_38 18 10).toInt ≤ 24 := h_40.rd (a := 18) rfl (by decide) 10
            refine zH_lt (fun x_44 e_45 => ?_)
            have q_47 : x_44.toInt = (μ_38 18 10).toInt := (congrArg Int32.toInt e_45).trans (rfl : (μ_38 18 10).toInt = _)
            refine zH_ck (zIn (rfl : x_44.toInt = _) (by omega) (by omega)) ?_
            refine zH_lt (fun μ_48 e_49 => ?_)
            have h_50 : J false L M μ_48 := by rw [e_49]; exact J.upf h_40 (a := 28) (k := (1, 24)) rfl (fx0 (by decide) (by decide)) (by decide) (by decide) (Or.inl (by decide)) rfl
            refine zH_ck (zIn (rfl : x_44.toInt = _) (by omega) (by omega)) ?_
            refine zH_lt (fun μ_51 e_52 => ?_)
            have h_53 : J false L M μ_51 := by rw [e_52]; exact J.upf h_50 (a := 29) (k := (1, 24)) rfl (fx0 (by decide) (by decide)) (by decide) (by decide) (Or.inl (by decide)) rfl
            refine zH_ck (zIn (rfl : x_44.toInt = _) (by omega) (by omega)) ?_
            refine zH_lt (fun μ_54 e_55 => ?_)
            have h_56 : J false L M μ_54 := by rw [e_55]; exact J.upf h_53 (a := 30) (k := (1, 24)) rfl (fx0 (by decide) (by decide)) (by decide) (by decide) (Or.inl (by decide)) rfl
            have q_60 : (x_44 + (1 : Int32)).toInt = (x_44.toInt + (1 : Int)) := (iA (rfl : x_44.toInt = _) (iL (1) (1) rfl) (by omega) (by omega))
            refine zH_lt (fun μ_57 e_58 => ?_)
            have h_59 : J false L M μ_57 := by rw [e_58]; exact J.up h_56 (a := 18) (k := (0, 1)) rfl (fx0 (by decide) (by decide)) (by decide) (by decide) (Or.inl (by decide)) (show (0 : Int) ≤ (x_44 + (1 : Int32)).toInt ∧ (x_44 + (1 : Int32)).toInt ≤ 24 from by have q_61 : (x_44 + (1 : Int32)).toInt = (x_44.toInt + (1 : Int)) := (iA (rfl : x_44.toInt = _) (iL (1) (1) rfl) (by omega) (by omega)); omega)
            refine zH_eqc (iL (-1) (-1) rfl) (iL (-1) (-1) rfl) (fun c_62e c_62 => ?_) (fun c_62e c_62 => ?_)
            · have q_63 : (0 : Int32).toInt = (0 : Int) := (iL (0) (0) rfl)
              exact zH_some ⟨h_59, show (0 : Int32).toInt = 0 ∨ (0 : Int32).toInt = 1 from by have q_64 : ((0 : Int32)).toInt = (0 : Int) := (iL (0) (0) rfl); omega⟩
            · exact zH_some ⟨h_59, show (1 : Int32).toInt = 0 ∨ (1 : Int32).toInt = 1 from by have q_65 : ((1 : Int32)).toInt = (1 : Int) := (iL (1) (1) rfl); omega⟩
          · have q_66 : (254 : Int32).toInt = (254 : Int) := (iL (254) (254) rfl)
            refine zH_bp (tX7_number h_40.hl h_40.jl) (fun x_67 μ_68 p_69 => ?_)
            have h_70 : J false L M μ_68 := h_40.lex p_69.1
            have q_71 : (μ_68 18 10).toInt = (μ_38 18 10).toInt := congrArg Int32.toInt (congrFun (p_69.1.1 18 (by decide)) (10))
            have q_72 : x_67.toInt = -1 ∨ ((1 : Int32).toInt ≤ x_67.toInt ∧ x_67.toInt ≤ (254 : Int32).toInt) := p_69.2
            unfold fX2_readTrack_n108
            have f_75 : (0 : Int) ≤ (μ_68 18 10).toInt ∧ (μ_68 18 10).toInt ≤ 24 := h_70.rd (a := 18) rfl (by decide) 10
            refine zH_lt (fun x_73 e_74 => ?_)
            have q_76 : x_73.toInt = (μ_68 18 10).toInt := (congrArg Int32.toInt e_74).trans (rfl : (μ_68 18 10).toInt = _)
            refine zH_ck (zIn (rfl : x_73.toInt = _) (by omega) (by omega)) ?_
            refine zH_lt (fun μ_77 e_78 => ?_)
            have h_79 : J false L M μ_77 := by rw [e_78]; exact J.upf h_70 (a := 28) (k := (1, 24)) rfl (fx0 (by decide) (by decide)) (by decide) (by decide) (Or.inl (by decide)) rfl
            refine zH_ck (zIn (rfl : x_73.toInt = _) (by omega) (by omega)) ?_
            refine zH_lt (fun μ_80 e_81 => ?_)
            have h_82 : J false L M μ_80 := by rw [e_81]; exact J.upf h_79 (a := 29) (k := (1, 24)) rfl (fx0 (by decide) (by decide)) (by decide) (by decide) (Or.inl (by decide)) rfl
            refine zH_ck (zIn (rfl : x_73.toInt = _) (by omega) (by omega)) ?_
            refine zH_lt (fun μ_83 e_84 => ?_)
            have h_85 : J false L M μ_83 := by rw [e_84]; exact J.upf h_82 (a := 30) (k := (1, 24)) rfl (fx0 (by decide) (by decide)) (by decide) (by decide) (Or.inl (by decide)) rfl
            have q_89 : (x_73 + (1 : Int32)).toInt = (x_73.toInt + (1 : Int)) := (iA (rfl : x_73.toInt = _) (iL (1) (1) rfl) (by omega) (by omega))
            refine zH_lt (fun μ_86 e_87 => ?_)
            have h_88 : J false L M μ_86 := by rw [e_87]; exact J.up h_85 (a := 18) (k := (0, 1)) rfl (fx0 (by decide) (by decide)) (by decide) (by decide) (Or.inl (by decide)) (show (0 : Int) ≤ (x_73 + (1 : Int32)).toInt ∧ (x_73 + (1 : Int32)).toInt ≤ 24 from by have q_90 : (x_73 + (1 : Int32)).toInt = (x_73.toInt + (1 : Int)) := (iA (rfl : x_73.toInt = _) (iL (1) (1) rfl) (by omega) (by omega)); omega)
            refine zH_eqc (rfl : x_67.toInt = _) (iL (-1) (-1) rfl) (fun c_91e c_91 => ?_) (fun c_91e c_91 => ?_)
            · have q_92 : (0 : Int32).toInt = (0 : Int) := (iL (0) (0) rfl)
              exact zH_some ⟨h_88, show (0 : Int32).toInt = 0 ∨ (0 : Int32).toInt = 1 from by have q_93 : ((0 : Int32)).toInt = (0 : Int) := (iL (0) (0) rfl); omega⟩
            · exact zH_some ⟨h_88, show (1 : Int32).toInt = 0 ∨ (1 : Int32).toInt = 1 from by have q_94 : ((1 : Int32)).toInt = (1 : Int) := (iL (1) (1) rfl); omega⟩
        · have q_95 : (5 : Int32).toInt = (5 : Int) := (iL (5) (5) rfl)
          refine zH_bp (tX7_refuse h_26.hl h_26.jl) (fun x_96 μ_97 p_98 => ?_)
          have h_99 : J false L M μ_97 := h_26.lex p_98.1
          have q_100 : (μ_97 18 10).toInt = (μ_24 18 10).toInt := congrArg Int32.toInt (congrFun (p_98.1.1 18 (by decide)) (10))
          have q_101 : x_96.toInt = 0 := p_98.2
          refine zH_ck (zBo (show (x_96).toInt = 0 ∨ (x_96).toInt = 1 from by have q_102 : (x_96).toInt = x_96.toInt := (rfl : x_96.toInt = _); omega)) ?_
          exact zH_some ⟨h_99, show x_96.toInt = 0 ∨ x_96.toInt = 1 from by have q_103 : (x_96).toInt = x_96.toInt := (rfl : x_96.toInt = _); omega⟩
theorem tX2_readStatement {L : Int32} {M : gM} {a1 : Int32} {μ : gM}  (h : J false L M μ)  : zH (fX2_readStatement a1 μ) (fun r => J false L M r.2 ∧ (r.1.toInt = 0 ∨ r.1.toInt = 1)) := by
  unfold fX2_readStatement
  refine zH_lt (fun x_1 e_2 => ?_)
  refine zH_bd (tX7_ownWord) (fun x_3 p_4 => ?_)
  have q_5 : (-1 : Int) ≤ x_3.toInt ∧ x_3.toInt ≤ 20 := p_4
  refine zH_eqc (rfl : x_3.toInt = _) (iL (0) (0) rfl) (fun c_6e c_6 => ?_) (fun c_6e c_6 => ?_)
  · unfold fX2_readStatement_n52
    refine zH_lec (iL (60) (60) rfl) (rfl : a1.toInt = _) (fun c_7 => ?_) (fun c_7 => ?_)
    · unfold fX2_readStatement_n66
      have q_8 : (6 : Int32).toInt = (6 : Int) := (iL (6) (6) rfl)
      refine zH_bp (tX7_refuse h.hl h.jl) (fun x_9 μ_10 p_11 => ?_)
      have h_12 : J false L M μ_10 := h.lex p_11.1
      have q_13 : (μ_10 18 10).toInt = (μ 18 10).toInt := congrArg Int32.toInt (congrFun (p_11.1.1 18 (by decide)) (10))
      have q_14 : (μ_10 19 2).toInt = (μ 19 2).toInt := congrArg Int32.toInt (congrFun (p_11.1.1 19 (by decide)) (2))
      have q_15 : (μ_10 19 x_3.toNatClampNeg).toInt = (μ 19 x_3.toNatClampNeg).toInt := congrArg Int32.toInt (congrFun (p_11.1.1 19 (by decide)) (x_3.toNatClampNeg))
      have q_16 : x_9.toInt = 0 := p_11.2
      refine zH_ck (zBo (show (x_9).toInt = 0 ∨ (x_9).toInt = 1 from by have q_17 : (x_9).toInt = x_9.toInt := (rfl : x_9.toInt = _); omega)) ?_
      exact zH_some ⟨h_12, show x_9.toInt = 0 ∨ x_9.toInt = 1 from by have q_18 : (x_9).toInt = x_9.toInt := (rfl : x_9.toInt = _); omega⟩
    · refine zH_bd (tX2_isFull h (by omega)) (fun x_19 p_20 => ?_)
      have q_21 : (x_19.toInt = 0 ∨ x_19.toInt = 1) ∧ (x_19.toInt = 0 → (x_3.toInt = 11 → (μ 18 10).toInt < 24) ∧ (x_3.toInt = 2 → (μ 19 2).toInt < 5) ∧ (x_3.toInt ≤ 2 → (μ 19 x_3.toNatClampNeg).toInt < 8 ∧ (x_3.toInt = 0 → (μ 19 x_3.toNatClampNeg).toInt < 6) ∧ (x_3.toInt = 2 → (μ 19 x_3.toNatClampNeg).toInt < 5))) := p_20
      have f_22 : (0 : Int) ≤ (μ 18 10).toInt ∧ (μ 18 10).toInt ≤ 24 := h.rd (a := 18) rfl (by decide) 10
      have f_23 : (0 : Int) ≤ (μ 19 2).toInt ∧ (μ 19 2).toInt ≤ 5 := h.rd (a := 19) rfl (by decide) 2
      refine zH_eqc (rfl : x_19.toInt = _) (iL (0) (0) rfl) (fun c_24e c_24 => ?_) (fun c_24e c_24 => ?_)
      · refine zH_bd (tX7_advance h.hl h.jl) (fun μ_25 p_26 => ?_)
        have h_27 : J false L M μ_25 := h.lex p_26
        have q_28 : (μ_25 18 10).toInt = (μ 18 10).toInt := congrArg Int32.toInt (congrFun (p_26.1 18 (by decide)) (10))
        have q_29 : (μ_25 19 2).toInt = (μ 19 2).toInt := congrArg Int32.toInt (congrFun (p_26.1 19 (by decide)) (2))
        have q_30 : (μ_25 19 x_3.toNatClampNeg).toInt = (μ 19 x_3.toNatClampNeg).toInt := congrArg Int32.toInt (congrFun (p_26.1 19 (by decide)) (x_3.toNatClampNeg))
        refine zH_eqc (rfl : x_3.toInt = _) (iL (2) (2) rfl) (fun c_31e c_31 => ?_) (fun c_31e c_31 => ?_)
        · refine zH_bp (tX2_readGroup h_27 (by omega)) (fun x_32 μ_33 p_34 => ?_)
          have h_35 : J false L M μ_33 := p_34.1
          have q_36 : x_32.toInt = 0 ∨ x_32.toInt = 1 := p_34.2
          unfold fX2_readStatement_n154
          refine zH_eqc (rfl : x_32.toInt = _) (iL (0) (0) rfl) (fun c_37e c_37 => ?_) (fun c_37e c_37 => ?_)
          · have q_38 : (0 : Int32).toInt = (0 : Int) := (iL (0) (0) rfl)
            exact zH_some ⟨h_35, show (0 : Int32).toInt = 0 ∨ (0 : Int32).toInt = 1 from by have q_39 : ((0 : Int32)).toInt = (0 : Int) := (iL (0) (0) rfl); omega⟩
          · refine zH_bp (tX7_passStop h_35.hl h_35.jl) (fun x_40 μ_41 p_42 => ?_)
            have h_43 : J false L M μ_41 := h_35.lex p_42.1
            have q_44 : (μ_41 18 10).toInt = (μ_33 18 10).toInt := congrArg Int32.toInt (congrFun (p_42.1.1 18 (by decide)) (10))
            have q_45 : (μ_41 19 2).toInt = (μ_33 19 2).toInt := congrArg Int32.toInt (congrFun (p_42.1.1 19 (by decide)) (2))
            have q_46 : (μ_41 19 x_3.toNatClampNeg).toInt = (μ_33 19 x_3.toNatClampNeg).toInt := congrArg Int32.toInt (congrFun (p_42.1.1 19 (by decide)) (x_3.toNatClampNeg))
            have q_47 : x_40.toInt = 0 ∨ x_40.toInt = 1 := p_42.2
            refine zH_eqc (rfl : x_40.toInt = _) (iL (0) (0) rfl) (fun c_48e c_48 => ?_) (fun c_48e c_48 => ?_)
            · have q_49 : (0 : Int32).toInt = (0 : Int) := (iL (0) (0) rfl)
              exact zH_some ⟨h_43, show (0 : Int32).toInt = 0 ∨ (0 : Int32).toInt = 1 from by have q_50 : ((0 : Int32)).toInt = (0 : Int) := (iL (0) (0) rfl); omega⟩
            · have q_51 : (1 : Int32).toInt = (1 : Int) := (iL (1) (1) rfl)
              exact zH_some ⟨h_43, show (1 : Int32).toInt = 0 ∨ (1 : Int32).toInt = 1 from by have q_52 : ((1 : Int32)).toInt = (1 : Int) := (iL (1) (1) rfl); omega⟩
        · refine zH_eqc (rfl : x_3.toInt = _) (iL (7) (7) rfl) (fun c_53e c_53 => ?_) (fun c_53e c_53 => ?_)
          · refine zH_bp (tX2_readMember h_27) (fun x_54 μ_55 p_56 => ?_)
            have h_57 : J false L M μ_55 := p_56.1
            have q_58 : x_54.toInt = 0 ∨ x_54.toInt = 1 := p_56.2
            unfold fX2_readStatement_n154
            refine zH_eqc (rfl : x_54.toInt = _) (iL (0) (0) rfl) (fun c_59e c_59 => ?_) (fun c_59e c_59 => ?_)
            · have q_60 : (0 : Int32).toInt = (0 : Int) := (iL (0) (0) rfl)
              exact zH_some ⟨h_57, show (0 : Int32).toInt = 0 ∨ (0 : Int32).toInt = 1 from by have q_61 : ((0 : Int32)).toInt = (0 : Int) := (iL (0) (0) rfl); omega⟩
            · refine zH_bp (tX7_passStop h_57.hl h_57.jl) (fun x_62 μ_63 p_64 => ?_)
              have h_65 : J false L M μ_63 := h_57.lex p_64.1
              have q_66 : (μ_63 18 10).toInt = (μ_55 18 10).toInt := congrArg Int32.toInt (congrFun (p_64.1.1 18 (by decide)) (10))
              have q_67 : (μ_63 19 2).toInt = (μ_55 19 2).toInt := congrArg Int32.toInt (congrFun (p_64.1.1 19 (by decide)) (2))
              have q_68 : (μ_63 19 x_3.toNatClampNeg).toInt = (μ_55 19 x_3.toNatClampNeg).toInt := congrArg Int32.toInt (congrFun (p_64.1.1 19 (by decide)) (x_3.toNatClampNeg))
              have q_69 : x_62.toInt = 0 ∨ x_62.toInt = 1 := p_64.2
              refine zH_eqc (rfl : x_62.toInt = _) (iL (0) (0) rfl) (fun c_70e c_70 => ?_) (fun c_70e c_70 => ?_)
              · have q_71 : (0 : Int32).toInt = (0 : Int) := (iL (0) (0) rfl)
                exact zH_some ⟨h_65, show (0 : Int32).toInt = 0 ∨ (0 : Int32).toInt = 1 from by have q_72 : ((0 : Int32)).toInt = (0 : Int) := (iL (0) (0) rfl); omega⟩
              · have q_73 : (1 : Int32).toInt = (1 : Int) := (iL (1) (1) rfl)
                exact zH_some ⟨h_65, show (1 : Int32).toInt = 0 ∨ (1 : Int32).toInt = 1 from by have q_74 : ((1 : Int32)).toInt = (1 : Int) := (iL (1) (1) rfl); omega⟩
          · refine zH_eqc (rfl : x_3.toInt = _) (iL (11) (11) rfl) (fun c_75e c_75 => ?_) (fun c_75e c_75 => ?_)
            · refine zH_bp (tX2_readTrack h_27 (by omega)) (fun x_76 μ_77 p_78 => ?_)
              have h_79 : J false L M μ_77 := p_78.1
              have q_80 : x_76.toInt = 0 ∨ x_76.toInt = 1 := p_78.2
              unfold fX2_readStatement_n154
              refine zH_eqc (rfl : x_76.toInt = _) (iL (0) (0) rfl) (fun c_81e c_81 => ?_) (fun c_81e c_81 => ?_)
              · have q_82 : (0 : Int32).toInt = (0 : Int) := (iL (0) (0) rfl)
                exact zH_some ⟨h_79, show (0 : Int32).toInt = 0 ∨ (0 : Int32).toInt = 1 from by have q_83 : ((0 : Int32)).toInt = (0 : Int) := (iL (0) (0) rfl); omega⟩
              · refine zH_bp (tX7_passStop h_79.hl h_79.jl) (fun x_84 μ_85 p_86 => ?_)
                have h_87 : J false L M μ_85 := h_79.lex p_86.1
                have q_88 : (μ_85 18 10).toInt = (μ_77 18 10).toInt := congrArg Int32.toInt (congrFun (p_86.1.1 18 (by decide)) (10))
                have q_89 : (μ_85 19 2).toInt = (μ_77 19 2).toInt := congrArg Int32.toInt (congrFun (p_86.1.1 19 (by decide)) (2))
                have q_90 : (μ_85 19 x_3.toNatClampNeg).toInt = (μ_77 19 x_3.toNatClampNeg).toInt := congrArg Int32.toInt (congrFun (p_86.1.1 19 (by decide)) (x_3.toNatClampNeg))
                have q_91 : x_84.toInt = 0 ∨ x_84.toInt = 1 := p_86.2
                refine zH_eqc (rfl : x_84.toInt = _) (iL (0) (0) rfl) (fun c_92e c_92 => ?_) (fun c_92e c_92 => ?_)
                · have q_93 : (0 : Int32).toInt = (0 : Int) := (iL (0) (0) rfl)
                  exact zH_some ⟨h_87, show (0 : Int32).toInt = 0 ∨ (0 : Int32).toInt = 1 from by have q_94 : ((0 : Int32)).toInt = (0 : Int) := (iL (0) (0) rfl); omega⟩
                · have q_95 : (1 : Int32).toInt = (1 : Int) := (iL (1) (1) rfl)
                  exact zH_some ⟨h_87, show (1 : Int32).toInt = 0 ∨ (1 : Int32).toInt = 1 from by have q_96 : ((1 : Int32)).toInt = (1 : Int) := (iL (1) (1) rfl); omega⟩
            · refine zH_bp (tX2_readName h_27 (by omega) (by omega) (by omega) (by omega) (by omega)) (fun x_97 μ_98 p_99 => ?_)
              have h_100 : J false L M μ_98 := p_99.1
              have q_101 : x_97.toInt = 0 ∨ x_97.toInt = 1 := p_99.2
              unfold fX2_readStatement_n154
              refine zH_eqc (rfl : x_97.toInt = _) (iL (0) (0) rfl) (fun c_102e c_102 => ?_) (fun c_102e c_102 => ?_)
              · have q_103 : (0 : Int32).toInt = (0 : Int) := (iL (0) (0) rfl)
                exact zH_some ⟨h_100, show (0 : Int32).toInt = 0 ∨ (0 : Int32).toInt = 1 from by have q_104 : ((0 : Int32)).toInt = (0 : Int) := (iL (0) (0) rfl); omega⟩
              · refine zH_bp (tX7_passStop h_100.hl h_100.jl) (fun x_105 μ_106 p_107 => ?_)
                have h_108 : J false L M μ_106 := h_100.lex p_107.1
                have q_109 : (μ_106 18 10).toInt = (μ_98 18 10).toInt := congrArg Int32.toInt (congrFun (p_107.1.1 18 (by decide)) (10))
                have q_110 : (μ_106 19 2).toInt = (μ_98 19 2).toInt := congrArg Int32.toInt (congrFun (p_107.1.1 19 (by decide)) (2))
                have q_111 : (μ_106 19 x_3.toNatClampNeg).toInt = (μ_98 19 x_3.toNatClampNeg).toInt := congrArg Int32.toInt (congrFun (p_107.1.1 19 (by decide)) (x_3.toNatClampNeg))
                have q_112 : x_105.toInt = 0 ∨ x_105.toInt = 1 := p_107.2
                refine zH_eqc (rfl : x_105.toInt = _) (iL (0) (0) rfl) (fun c_113e c_113 => ?_) (fun c_113e c_113 => ?_)
                · have q_114 : (0 : Int32).toInt = (0 : Int) := (iL (0) (0) rfl)
                  exact zH_some ⟨h_108, show (0 : Int32).toInt = 0 ∨ (0 : Int32).toInt = 1 from by have q_115 : ((0 : Int32)).toInt = (0 : Int) := (iL (0) (0) rfl); omega⟩
                · have q_116 : (1 : Int32).toInt = (1 : Int) := (iL (1) (1) rfl)
                  exact zH_some ⟨h_108, show (1 : Int32).toInt = 0 ∨ (1 : Int32).toInt = 1 from by have q_117 : ((1 : Int32)).toInt = (1 : Int) := (iL (1) (1) rfl); omega⟩
      · unfold fX2_readStatement_n66
        have q_118 : (6 : Int32).toInt = (6 : Int) := (iL (6) (6) rfl)
        refine zH_bp (tX7_refuse h.hl h.jl) (fun x_119 μ_120 p_121 => ?_)
        have h_122 : J false L M μ_120 := h.lex p_121.1
        have q_123 : (μ_120 18 10).toInt = (μ 18 10).toInt := congrArg Int32.toInt (congrFun (p_121.1.1 18 (by decide)) (10))
        have q_124 : (μ_120 19 2).toInt = (μ 19 2).toInt := congrArg Int32.toInt (congrFun (p_121.1.1 19 (by decide)) (2))
        have q_125 : (μ_120 19 x_3.toNatClampNeg).toInt = (μ 19 x_3.toNatClampNeg).toInt := congrArg Int32.toInt (congrFun (p_121.1.1 19 (by decide)) (x_3.toNatClampNeg))
        have q_126 : x_119.toInt = 0 := p_121.2
        refine zH_ck (zBo (show (x_119).toInt = 0 ∨ (x_119).toInt = 1 from by have q_127 : (x_119).toInt = x_119.toInt := (rfl : x_119.toInt = _); omega)) ?_
        exact zH_some ⟨h_122, show x_119.toInt = 0 ∨ x_119.toInt = 1 from by have q_128 : (x_119).toInt = x_119.toInt := (rfl : x_119.toInt = _); omega⟩
  · refine zH_eqc (rfl : x_3.toInt = _) (iL (1) (1) rfl) (fun c_129e c_129 => ?_) (fun c_129e c_129 => ?_)
    · unfold fX2_readStatement_n52
      refine zH_lec (iL (60) (60) rfl) (rfl : a1.toInt = _) (fun c_130 => ?_) (fun c_130 => ?_)
      · unfold fX2_readStatement_n66
        have q_131 : (6 : Int32).toInt = (6 : Int) := (iL (6) (6) rfl)
        refine zH_bp (tX7_refuse h.hl h.jl) (fun x_132 μ_133 p_134 => ?_)
        have h_135 : J false L M μ_133 := h.lex p_134.1
        have q_136 : (μ_133 18 10).toInt = (μ 18 10).toInt := congrArg Int32.toInt (congrFun (p_134.1.1 18 (by decide)) (10))
        have q_137 : (μ_133 19 2).toInt = (μ 19 2).toInt := congrArg Int32.toInt (congrFun (p_134.1.1 19 (by decide)) (2))
        have q_138 : (μ_133 19 x_3.toNatClampNeg).toInt = (μ 19 x_3.toNatClampNeg).toInt := congrArg Int32.toInt (congrFun (p_134.1.1 19 (by decide)) (x_3.toNatClampNeg))
        have q_139 : x_132.toInt = 0 := p_134.2
        refine zH_ck (zBo (show (x_132).toInt = 0 ∨ (x_132).toInt = 1 from by have q_140 : (x_132).toInt = x_132.toInt := (rfl : x_132.toInt = _); omega)) ?_
        exact zH_some ⟨h_135, show x_132.toInt = 0 ∨ x_132.toInt = 1 from by have q_141 : (x_132).toInt = x_132.toInt := (rfl : x_132.toInt = _); omega⟩
      · refine zH_bd (tX2_isFull h (by omega)) (fun x_142 p_143 => ?_)
        have q_144 : (x_142.toInt = 0 ∨ x_142.toInt = 1) ∧ (x_142.toInt = 0 → (x_3.toInt = 11 → (μ 18 10).toInt < 24) ∧ (x_3.toInt = 2 → (μ 19 2).toInt < 5) ∧ (x_3.toInt ≤ 2 → (μ 19 x_3.toNatClampNeg).toInt < 8 ∧ (x_3.toInt = 0 → (μ 19 x_3.toNatClampNeg).toInt < 6) ∧ (x_3.toInt = 2 → (μ 19 x_3.toNatClampNeg).toInt < 5))) := p_143
        have f_145 : (0 : Int) ≤ (μ 18 10).toInt ∧ (μ 18 10).toInt ≤ 24 := h.rd (a := 18) rfl (by decide) 10
        have f_146 : (0 : Int) ≤ (μ 19 2).toInt ∧ (μ 19 2).toInt ≤ 5 := h.rd (a := 19) rfl (by decide) 2
        refine zH_eqc (rfl : x_142.toInt = _) (iL (0) (0) rfl) (fun c_147e c_147 => ?_) (fun c_147e c_147 => ?_)
        · refine zH_bd (tX7_advance h.hl h.jl) (fun μ_148 p_149 => ?_)
          have h_150 : J false L M μ_148 := h.lex p_149
          have q_151 : (μ_148 18 10).toInt = (μ 18 10).toInt := congrArg Int32.toInt (congrFun (p_149.1 18 (by decide)) (10))
          have q_152 : (μ_148 19 2).toInt = (μ 19 2).toInt := congrArg Int32.toInt (congrFun (p_149.1 19 (by decide)) (2))
          have q_153 : (μ_148 19 x_3.toNatClampNeg).toInt = (μ 19 x_3.toNatClampNeg).toInt := congrArg Int32.toInt (congrFun (p_149.1 19 (by decide)) (x_3.toNatClampNeg))
          refine zH_eqc (rfl : x_3.toInt = _) (iL (2) (2) rfl) (fun c_154e c_154 => ?_) (fun c_154e c_154 => ?_)
          · refine zH_bp (tX2_readGroup h_150 (by omega)) (fun x_155 μ_156 p_157 => ?_)
            have h_158 : J false L M μ_156 := p_157.1
            have q_159 : x_155.toInt = 0 ∨ x_155.toInt = 1 := p_157.2
            unfold fX2_readStatement_n154
            refine zH_eqc (rfl : x_155.toInt = _) (iL (0) (0) rfl) (fun c_160e c_160 => ?_) (fun c_160e c_160 => ?_)
            · have q_161 : (0 : Int32).toInt = (0 : Int) := (iL (0) (0) rfl)
              exact zH_some ⟨h_158, show (0 : Int32).toInt = 0 ∨ (0 : Int32).toInt = 1 from by have q_162 : ((0 : Int32)).toInt = (0 : Int) := (iL (0) (0) rfl); omega⟩
            · refine zH_bp (tX7_passStop h_158.hl h_158.jl) (fun x_163 μ_164 p_165 => ?_)
              have h_166 : J false L M μ_164 := h_158.lex p_165.1
              have q_167 : (μ_164 18 10).toInt = (μ_156 18 10).toInt := congrArg Int32.toInt (congrFun (p_165.1.1 18 (by decide)) (10))
              have q_168 : (μ_164 19 2).toInt = (μ_156 19 2).toInt := congrArg Int32.toInt (congrFun (p_165.1.1 19 (by decide)) (2))
              have q_169 : (μ_164 19 x_3.toNatClampNeg).toInt = (μ_156 19 x_3.toNatClampNeg).toInt := congrArg Int32.toInt (congrFun (p_165.1.1 19 (by decide)) (x_3.toNatClampNeg))
              have q_170 : x_163.toInt = 0 ∨ x_163.toInt = 1 := p_165.2
              refine zH_eqc (rfl : x_163.toInt = _) (iL (0) (0) rfl) (fun c_171e c_171 => ?_) (fun c_171e c_171 => ?_)
              · have q_172 : (0 : Int32).toInt = (0 : Int) := (iL (0) (0) rfl)
                exact zH_some ⟨h_166, show (0 : Int32).toInt = 0 ∨ (0 : Int32).toInt = 1 from by have q_173 : ((0 : Int32)).toInt = (0 : Int) := (iL (0) (0) rfl); omega⟩
              · have q_174 : (1 : Int32).toInt = (1 : Int) := (iL (1) (1) rfl)
                exact zH_some ⟨h_166, show (1 : Int32).toInt = 0 ∨ (1 : Int32).toInt = 1 from by have q_175 : ((1 : Int32)).toInt = (1 : Int) := (iL (1) (1) rfl); omega⟩
          · refine zH_eqc (rfl : x_3.toInt = _) (iL (7) (7) rfl) (fun c_176e c_176 => ?_) (fun c_176e c_176 => ?_)
            · refine zH_bp (tX2_readMember h_150) (fun x_177 μ_178 p_179 => ?_)
              have h_180 : J false L M μ_178 := p_179.1
              have q_181 : x_177.toInt = 0 ∨ x_177.toInt = 1 := p_179.2
              unfold fX2_readStatement_n154
              refine zH_eqc (rfl : x_177.toInt = _) (iL (0) (0) rfl) (fun c_182e c_182 => ?_) (fun c_182e c_182 => ?_)
              · have q_183 : (0 : Int32).toInt = (0 : Int) := (iL (0) (0) rfl)
                exact zH_some ⟨h_180, show (0 : Int32).toInt = 0 ∨ (0 : Int32).toInt = 1 from by have q_184 : ((0 : Int32)).toInt = (0 : Int) := (iL (0) (0) rfl); omega⟩
              · refine zH_bp (tX7_passStop h_180.hl h_180.jl) (fun x_185 μ_186 p_187 => ?_)
                have h_188 : J false L M μ_186 := h_180.lex p_187.1
                have q_189 : (μ_186 18 10).toInt = (μ_178 18 10).toInt := congrArg Int32.toInt (congrFun (p_187.1.1 18 (by decide)) (10))
                have q_190 : (μ_186 19 2).toInt = (μ_178 19 2).toInt := congrArg Int32.toInt (congrFun (p_187.1.1 19 (by decide)) (2))
                have q_191 : (μ_186 19 x_3.toNatClampNeg).toInt = (μ_178 19 x_3.toNatClampNeg).toInt := congrArg Int32.toInt (congrFun (p_187.1.1 19 (by decide)) (x_3.toNatClampNeg))
                have q_192 : x_185.toInt = 0 ∨ x_185.toInt = 1 := p_187.2
                refine zH_eqc (rfl : x_185.toInt = _) (iL (0) (0) rfl) (fun c_193e c_193 => ?_) (fun c_193e c_193 => ?_)
                · have q_194 : (0 : Int32).toInt = (0 : Int) := (iL (0) (0) rfl)
                  exact zH_some ⟨h_188, show (0 : Int32).toInt = 0 ∨ (0 : Int32).toInt = 1 from by have q_195 : ((0 : Int32)).toInt = (0 : Int) := (iL (0) (0) rfl); omega⟩
                · have q_196 : (1 : Int32).toInt = (1 : Int) := (iL (1) (1) rfl)
                  exact zH_some ⟨h_188, show (1 : Int32).toInt = 0 ∨ (1 : Int32).toInt = 1 from by have q_197 : ((1 : Int32)).toInt = (1 : Int) := (iL (1) (1) rfl); omega⟩
            · refine zH_eqc (rfl : x_3.toInt = _) (iL (11) (11) rfl) (fun c_198e c_198 => ?_) (fun c_198e c_198 => ?_)
              · refine zH_bp (tX2_readTrack h_150 (by omega)) (fun x_199 μ_200 p_201 => ?_)
                have h_202 : J false L M μ_200 := p_201.1
                have q_203 : x_199.toInt = 0 ∨ x_199.toInt = 1 := p_201.2
                unfold fX2_readStatement_n154
                refine zH_eqc (rfl : x_199.toInt = _) (iL (0) (0) rfl) (fun c_204e c_204 => ?_) (fun c_204e c_204 => ?_)
                · have q_205 : (0 : Int32).toInt = (0 : Int) := (iL (0) (0) rfl)
                  exact zH_some ⟨h_202, show (0 : Int32).toInt = 0 ∨ (0 : Int32).toInt = 1 from by have q_206 : ((0 : Int32)).toInt = (0 : Int) := (iL (0) (0) rfl); omega⟩
                · refine zH_bp (tX7_passStop h_202.hl h_202.jl) (fun x_207 μ_208 p_209 => ?_)
                  have h_210 : J false L M μ_208 := h_202.lex p_209.1
                  have q_211 : (μ_208 18 10).toInt = (μ_200 18 10).toInt := congrArg Int32.toInt (congrFun (p_209.1.1 18 (by decide)) (10))
                  have q_212 : (μ_208 19 2).toInt = (μ_200 19 2).toInt := congrArg Int32.toInt (congrFun (p_209.1.1 19 (by decide)) (2))
                  have q_213 : (μ_208 19 x_3.toNatClampNeg).toInt = (μ_200 19 x_3.toNatClampNeg).toInt := congrArg Int32.toInt (congrFun (p_209.1.1 19 (by decide)) (x_3.toNatClampNeg))
                  have q_214 : x_207.toInt = 0 ∨ x_207.toInt = 1 := p_209.2
                  refine zH_eqc (rfl : x_207.toInt = _) (iL (0) (0) rfl) (fun c_215e c_215 => ?_) (fun c_215e c_215 => ?_)
                  · have q_216 : (0 : Int32).toInt = (0 : Int) := (iL (0) (0) rfl)
                    exact zH_some ⟨h_210, show (0 : Int32).toInt = 0 ∨ (0 : Int32).toInt = 1 from by have q_217 : ((0 : Int32)).toInt = (0 : Int) := (iL (0) (0) rfl); omega⟩
                  · have q_218 : (1 : Int32).toInt = (1 : Int) := (iL (1) (1) rfl)
                    exact zH_some ⟨h_210, show (1 : Int32).toInt = 0 ∨ (1 : Int32).toInt = 1 from by have q_219 : ((1 : Int32)).toInt = (1 : Int) := (iL (1) (1) rfl); omega⟩
              · refine zH_bp (tX2_readName h_150 (by omega) (by omega) (by omega) (by omega) (by omega)) (fun x_220 μ_221 p_222 => ?_)
                have h_223 : J false L M μ_221 := p_222.1
                have q_224 : x_220.toInt = 0 ∨ x_220.toInt = 1 := p_222.2
                unfold fX2_readStatement_n154
                refine zH_eqc (rfl : x_220.toInt = _) (iL (0) (0) rfl) (fun c_225e c_225 => ?_) (fun c_225e c_225 => ?_)
                · have q_226 : (0 : Int32).toInt = (0 : Int) := (iL (0) (0) rfl)
                  exact zH_some ⟨h_223, show (0 : Int32).toInt = 0 ∨ (0 : Int32).toInt = 1 from by have q_227 : ((0 : Int32)).toInt = (0 : Int) := (iL (0) (0) rfl); omega⟩
                · refine zH_bp (tX7_passStop h_223.hl h_223.jl) (fun x_228 μ_229 p_230 => ?_)
                  have h_231 : J false L M μ_229 := h_223.lex p_230.1
                  have q_232 : (μ_229 18 10).toInt = (μ_221 18 10).toInt := congrArg Int32.toInt (congrFun (p_230.1.1 18 (by decide)) (10))
                  have q_233 : (μ_229 19 2).toInt = (μ_221 19 2).toInt := congrArg Int32.toInt (congrFun (p_230.1.1 19 (by decide)) (2))
                  have q_234 : (μ_229 19 x_3.toNatClampNeg).toInt = (μ_221 19 x_3.toNatClampNeg).toInt := congrArg Int32.toInt (congrFun (p_230.1.1 19 (by decide)) (x_3.toNatClampNeg))
                  have q_235 : x_228.toInt = 0 ∨ x_228.toInt = 1 := p_230.2
                  refine zH_eqc (rfl : x_228.toInt = _) (iL (0) (0) rfl) (fun c_236e c_236 => ?_) (fun c_236e c_236 => ?_)
                  · have q_237 : (0 : Int32).toInt = (0 : Int) := (iL (0) (0) rfl)
                    exact zH_some ⟨h_231, show (0 : Int32).toInt = 0 ∨ (0 : Int32).toInt = 1 from by have q_238 : ((0 : Int32)).toInt = (0 : Int) := (iL (0) (0) rfl); omega⟩
                  · have q_239 : (1 : Int32).toInt = (1 : Int) := (iL (1) (1) rfl)
                    exact zH_some ⟨h_231, show (1 : Int32).toInt = 0 ∨ (1 : Int32).toInt = 1 from by have q_240 : ((1 : Int32)).toInt = (1 : Int) := (iL (1) (1) rfl); omega⟩
        · unfold fX2_readStatement_n66
          have q_241 : (6 : Int32).toInt = (6 : Int) := (iL (6) (6) rfl)
          refine zH_bp (tX7_refuse h.hl h.jl) (fun x_242 μ_243 p_244 => ?_)
          have h_245 : J false L M μ_243 := h.lex p_244.1
          have q_246 : (μ_243 18 10).toInt = (μ 18 10).toInt := congrArg Int32.toInt (congrFun (p_244.1.1 18 (by decide)) (10))
          have q_247 : (μ_243 19 2).toInt = (μ 19 2).toInt := congrArg Int32.toInt (congrFun (p_244.1.1 19 (by decide)) (2))
          have q_248 : (μ_243 19 x_3.toNatClampNeg).toInt = (μ 19 x_3.toNatClampNeg).toInt := congrArg Int32.toInt (congrFun (p_244.1.1 19 (by decide)) (x_3.toNatClampNeg))
          have q_249 : x_242.toInt = 0 := p_244.2
          refine zH_ck (zBo (show (x_242).toInt = 0 ∨ (x_242).toInt = 1 from by have q_250 : (x_242).toInt = x_242.toInt := (rfl : x_242.toInt = _); omega)) ?_
          exact zH_some ⟨h_245, show x_242.toInt = 0 ∨ x_242.toInt = 1 from by have q_251 : (x_242).toInt = x_242.toInt := (rfl : x_242.toInt = _); omega⟩
    · refine zH_eqc (rfl : x_3.toInt = _) (iL (2) (2) rfl) (fun c_252e c_252 => ?_) (fun c_252e c_252 => ?_)
      · unfold fX2_readStatement_n52
        refine zH_lec (iL (60) (60) rfl) (rfl : a1.toInt = _) (fun c_253 => ?_) (fun c_253 => ?_)
        · unfold fX2_readStatement_n66
          have q_254 : (6 : Int32).toInt = (6 : Int) := (iL (6) (6) rfl)
          refine zH_bp (tX7_refuse h.hl h.jl) (fun x_255 μ_256 p_257 => ?_)
          have h_258 : J false L M μ_256 := h.lex p_257.1
          have q_259 : (μ_256 18 10).toInt = (μ 18 10).toInt := congrArg Int32.toInt (congrFun (p_257.1.1 18 (by decide)) (10))
          have q_260 : (μ_256 19 2).toInt = (μ 19 2).toInt := congrArg Int32.toInt (congrFun (p_257.1.1 19 (by decide)) (2))
          have q_261 : (μ_256 19 x_3.toNatClampNeg).toInt = (μ 19 x_3.toNatClampNeg).toInt := congrArg Int32.toInt (congrFun (p_257.1.1 19 (by decide)) (x_3.toNatClampNeg))
          have q_262 : x_255.toInt = 0 := p_257.2
          refine zH_ck (zBo (show (x_255).toInt = 0 ∨ (x_255).toInt = 1 from by have q_263 : (x_255).toInt = x_255.toInt := (rfl : x_255.toInt = _); omega)) ?_
          exact zH_some ⟨h_258, show x_255.toInt = 0 ∨ x_255.toInt = 1 from by have q_264 : (x_255).toInt = x_255.toInt := (rfl : x_255.toInt = _); omega⟩
        · refine zH_bd (tX2_isFull h (by omega)) (fun x_265 p_266 => ?_)
          have q_267 : (x_265.toInt = 0 ∨ x_265.toInt = 1) ∧ (x_265.toInt = 0 → (x_3.toInt = 11 → (μ 18 10).toInt < 24) ∧ (x_3.toInt = 2 → (μ 19 2).toInt < 5) ∧ (x_3.toInt ≤ 2 → (μ 19 x_3.toNatClampNeg).toInt < 8 ∧ (x_3.toInt = 0 → (μ 19 x_3.toNatClampNeg).toInt < 6) ∧ (x_3.toInt = 2 → (μ 19 x_3.toNatClampNeg).toInt < 5))) := p_266
          have f_268 : (0 : Int) ≤ (μ 18 10).toInt ∧ (μ 18 10).toInt ≤ 24 := h.rd (a := 18) rfl (by decide) 10
          have f_269 : (0 : Int) ≤ (μ 19 2).toInt ∧ (μ 19 2).toInt ≤ 5 := h.rd (a := 19) rfl (by decide) 2
          refine zH_eqc (rfl : x_265.toInt = _) (iL (0) (0) rfl) (fun c_270e c_270 => ?_) (fun c_270e c_270 => ?_)
          · refine zH_bd (tX7_advance h.hl h.jl) (fun μ_271 p_272 => ?_)
            have h_273 : J false L M μ_271 := h.lex p_272
            have q_274 : (μ_271 18 10).toInt = (μ 18 10).toInt := congrArg Int32.toInt (congrFun (p_272.1 18 (by decide)) (10))
            have q_275 : (μ_271 19 2).toInt = (μ 19 2).toInt := congrArg Int32.toInt (congrFun (p_272.1 19 (by decide)) (2))
            have q_276 : (μ_271 19 x_3.toNatClampNeg).toInt = (μ 19 x_3.toNatClampNeg).toInt := congrArg Int32.toInt (congrFun (p_272.1 19 (by decide)) (x_3.toNatClampNeg))
            refine zH_eqc (rfl : x_3.toInt = _) (iL (2) (2) rfl) (fun c_277e c_277 => ?_) (fun c_277e c_277 => ?_)
            · refine zH_bp (tX2_readGroup h_273 (by omega)) (fun x_278 μ_279 p_280 => ?_)
              have h_281 : J false L M μ_279 := p_280.1
              have q_282 : x_278.toInt = 0 ∨ x_278.toInt = 1 := p_280.2
              unfold fX2_readStatement_n154
              refine zH_eqc (rfl : x_278.toInt = _) (iL (0) (0) rfl) (fun c_283e c_283 => ?_) (fun c_283e c_283 => ?_)
              · have q_284 : (0 : Int32).toInt = (0 : Int) := (iL (0) (0) rfl)
                exact zH_some ⟨h_281, show (0 : Int32).toInt = 0 ∨ (0 : Int32).toInt = 1 from by have q_285 : ((0 : Int32)).toInt = (0 : Int) := (iL (0) (0) rfl); omega⟩
              · refine zH_bp (tX7_passStop h_281.hl h_281.jl) (fun x_286 μ_287 p_288 => ?_)
                have h_289 : J false L M μ_287 := h_281.lex p_288.1
                have q_290 : (μ_287 18 10).toInt = (μ_279 18 10).toInt := congrArg Int32.toInt (congrFun (p_288.1.1 18 (by decide)) (10))
                have q_291 : (μ_287 19 2).toInt = (μ_279 19 2).toInt := congrArg Int32.toInt (congrFun (p_288.1.1 19 (by decide)) (2))
                have q_292 : (μ_287 19 x_3.toNatClampNeg).toInt = (μ_279 19 x_3.toNatClampNeg).toInt := congrArg Int32.toInt (congrFun (p_288.1.1 19 (by decide)) (x_3.toNatClampNeg))
                have q_293 : x_286.toInt = 0 ∨ x_286.toInt = 1 := p_288.2
                refine zH_eqc (rfl : x_286.toInt = _) (iL (0) (0) rfl) (fun c_294e c_294 => ?_) (fun c_294e c_294 => ?_)
                · have q_295 : (0 : Int32).toInt = (0 : Int) := (iL (0) (0) rfl)
                  exact zH_some ⟨h_289, show (0 : Int32).toInt = 0 ∨ (0 : Int32).toInt = 1 from by have q_296 : ((0 : Int32)).toInt = (0 : Int) := (iL (0) (0) rfl); omega⟩
                · have q_297 : (1 : Int32).toInt = (1 : Int) := (iL (1) (1) rfl)
                  exact zH_some ⟨h_289, show (1 : Int32).toInt = 0 ∨ (1 : Int32).toInt = 1 from by have q_298 : ((1 : Int32)).toInt = (1 : Int) := (iL (1) (1) rfl); omega⟩
            · refine zH_eqc (rfl : x_3.toInt = _) (iL (7) (7) rfl) (fun c_299e c_299 => ?_) (fun c_299e c_299 => ?_)
              · refine zH_bp (tX2_readMember h_273) (fun x_300 μ_301 p_302 => ?_)
                have h_303 : J false L M μ_301 := p_302.1
                have q_304 : x_300.toInt = 0 ∨ x_300.toInt = 1 := p_302.2
                unfold fX2_readStatement_n154
                refine zH_eqc (rfl : x_300.toInt = _) (iL (0) (0) rfl) (fun c_305e c_305 => ?_) (fun c_305e c_305 => ?_)
                · have q_306 : (0 : Int32).toInt = (0 : Int) := (iL (0) (0) rfl)
                  exact zH_some ⟨h_303, show (0 : Int32).toInt = 0 ∨ (0 : Int32).toInt = 1 from by have q_307 : ((0 : Int32)).toInt = (0 : Int) := (iL (0) (0) rfl); omega⟩
                · refine zH_bp (tX7_passStop h_303.hl h_303.jl) (fun x_308 μ_309 p_310 => ?_)
                  have h_311 : J false L M μ_309 := h_303.lex p_310.1
                  have q_312 : (μ_309 18 10).toInt = (μ_301 18 10).toInt := congrArg Int32.toInt (congrFun (p_310.1.1 18 (by decide)) (10))
                  have q_313 : (μ_309 19 2).toInt = (μ_301 19 2).toInt := congrArg Int32.toInt (congrFun (p_310.1.1 19 (by decide)) (2))
                  have q_314 : (μ_309 19 x_3.toNatClampNeg).toInt = (μ_301 19 x_3.toNatClampNeg).toInt := congrArg Int32.toInt (congrFun (p_310.1.1 19 (by decide)) (x_3.toNatClampNeg))
                  have q_315 : x_308.toInt = 0 ∨ x_308.toInt = 1 := p_310.2
                  refine zH_eqc (rfl : x_308.toInt = _) (iL (0) (0) rfl) (fun c_316e c_316 => ?_) (fun c_316e c_316 => ?_)
                  · have q_317 : (0 : Int32).toInt = (0 : Int) := (iL (0) (0) rfl)
                    exact zH_some ⟨h_311, show (0 : Int32).toInt = 0 ∨ (0 : Int32).toInt = 1 from by have q_318 : ((0 : Int32)).toInt = (0 : Int) := (iL (0) (0) rfl); omega⟩
                  · have q_319 : (1 : Int32).toInt = (1 : Int) := (iL (1) (1) rfl)
                    exact zH_some ⟨h_311, show (1 : Int32).toInt = 0 ∨ (1 : Int32).toInt = 1 from by have q_320 : ((1 : Int32)).toInt = (1 : Int) := (iL (1) (1) rfl); omega⟩
              · refine zH_eqc (rfl : x_3.toInt = _) (iL (11) (11) rfl) (fun c_321e c_321 => ?_) (fun c_321e c_321 => ?_)
                · refine zH_bp (tX2_readTrack h_273 (by omega)) (fun x_322 μ_323 p_324 => ?_)
                  have h_325 : J false L M μ_323 := p_324.1
                  have q_326 : x_322.toInt = 0 ∨ x_322.toInt = 1 := p_324.2
                  unfold fX2_readStatement_n154
                  refine zH_eqc (rfl : x_322.toInt = _) (iL (0) (0) rfl) (fun c_327e c_327 => ?_) (fun c_327e c_327 => ?_)
                  · have q_328 : (0 : Int32).toInt = (0 : Int) := (iL (0) (0) rfl)
                    exact zH_some ⟨h_325, show (0 : Int32).toInt = 0 ∨ (0 : Int32).toInt = 1 from by have q_329 : ((0 : Int32)).toInt = (0 : Int) := (iL (0) (0) rfl); omega⟩
                  · refine zH_bp (tX7_passStop h_325.hl h_325.jl) (fun x_330 μ_331 p_332 => ?_)
                    have h_333 : J false L M μ_331 := h_325.lex p_332.1
                    have q_334 : (μ_331 18 10).toInt = (μ_323 18 10).toInt := congrArg Int32.toInt (congrFun (p_332.1.1 18 (by decide)) (10))
                    have q_335 : (μ_331 19 2).toInt = (μ_323 19 2).toInt := congrArg Int32.toInt (congrFun (p_332.1.1 19 (by decide)) (2))
                    have q_336 : (μ_331 19 x_3.toNatClampNeg).toInt = (μ_323 19 x_3.toNatClampNeg).toInt := congrArg Int32.toInt (congrFun (p_332.1.1 19 (by decide)) (x_3.toNatClampNeg))
                    have q_337 : x_330.toInt = 0 ∨ x_330.toInt = 1 := p_332.2
                    refine zH_eqc (rfl : x_330.toInt = _) (iL (0) (0) rfl) (fun c_338e c_338 => ?_) (fun c_338e c_338 => ?_)
                    · have q_339 : (0 : Int32).toInt = (0 : Int) := (iL (0) (0) rfl)
                      exact zH_some ⟨h_333, show (0 : Int32).toInt = 0 ∨ (0 : Int32).toInt = 1 from by have q_340 : ((0 : Int32)).toInt = (0 : Int) := (iL (0) (0) rfl); omega⟩
                    · have q_341 : (1 : Int32).toInt = (1 : Int) := (iL (1) (1) rfl)
                      exact zH_some ⟨h_333, show (1 : Int32).toInt = 0 ∨ (1 : Int32).toInt = 1 from by have q_342 : ((1 : Int32)).toInt = (1 : Int) := (iL (1) (1) rfl); omega⟩
                · refine zH_bp (tX2_readName h_273 (by omega) (by omega) (by omega) (by omega) (by omega)) (fun x_343 μ_344 p_345 => ?_)
                  have h_346 : J false L M μ_344 := p_345.1
                  have q_347 : x_343.toInt = 0 ∨ x_343.toInt = 1 := p_345.2
                  unfold fX2_readStatement_n154
                  refine zH_eqc (rfl : x_343.toInt = _) (iL (0) (0) rfl) (fun c_348e c_348 => ?_) (fun c_348e c_348 => ?_)
                  · have q_349 : (0 : Int32).toInt = (0 : Int) := (iL (0) (0) rfl)
                    exact zH_some ⟨h_346, show (0 : Int32).toInt = 0 ∨ (0 : Int32).toInt = 1 from by have q_350 : ((0 : Int32)).toInt = (0 : Int) := (iL (0) (0) rfl); omega⟩
                  · refine zH_bp (tX7_passStop h_346.hl h_346.jl) (fun x_351 μ_352 p_353 => ?_)
                    have h_354 : J false L M μ_352 := h_346.lex p_353.1
                    have q_355 : (μ_352 18 10).toInt = (μ_344 18 10).toInt := congrArg Int32.toInt (congrFun (p_353.1.1 18 (by decide)) (10))
                    have q_356 : (μ_352 19 2).toInt = (μ_344 19 2).toInt := congrArg Int32.toInt (congrFun (p_353.1.1 19 (by decide)) (2))
                    have q_357 : (μ_352 19 x_3.toNatClampNeg).toInt = (μ_344 19 x_3.toNatClampNeg).toInt := congrArg Int32.toInt (congrFun (p_353.1.1 19 (by decide)) (x_3.toNatClampNeg))
                    have q_358 : x_351.toInt = 0 ∨ x_351.toInt = 1 := p_353.2
                    refine zH_eqc (rfl : x_351.toInt = _) (iL (0) (0) rfl) (fun c_359e c_359 => ?_) (fun c_359e c_359 => ?_)
                    · have q_360 : (0 : Int32).toInt = (0 : Int) := (iL (0) (0) rfl)
                      exact zH_some ⟨h_354, show (0 : Int32).toInt = 0 ∨ (0 : Int32).toInt = 1 from by have q_361 : ((0 : Int32)).toInt = (0 : Int) := (iL (0) (0) rfl); omega⟩
                    · have q_362 : (1 : Int32).toInt = (1 : Int) := (iL (1) (1) rfl)
                      exact zH_some ⟨h_354, show (1 : Int32).toInt = 0 ∨ (1 : Int32).toInt = 1 from by have q_363 : ((1 : Int32)).toInt = (1 : Int) := (iL (1) (1) rfl); omega⟩
          · unfold fX2_readStatement_n66
            have q_364 : (6 : Int32).toInt = (6 : Int) := (iL (6) (6) rfl)
            refine zH_bp (tX7_refuse h.hl h.jl) (fun x_365 μ_366 p_367 => ?_)
            have h_368 : J false L M μ_366 := h.lex p_367.1
            have q_369 : (μ_366 18 10).toInt = (μ 18 10).toInt := congrArg Int32.toInt (congrFun (p_367.1.1 18 (by decide)) (10))
            have q_370 : (μ_366 19 2).toInt = (μ 19 2).toInt := congrArg Int32.toInt (congrFun (p_367.1.1 19 (by decide)) (2))
            have q_371 : (μ_366 19 x_3.toNatClampNeg).toInt = (μ 19 x_3.toNatClampNeg).toInt := congrArg Int32.toInt (congrFun (p_367.1.1 19 (by decide)) (x_3.toNatClampNeg))
            have q_372 : x_365.toInt = 0 := p_367.2
            refine zH_ck (zBo (show (x_365).toInt = 0 ∨ (x_365).toInt = 1 from by have q_373 : (x_365).toInt = x_365.toInt := (rfl : x_365.toInt = _); omega)) ?_
            exact zH_some ⟨h_368, show x_365.toInt = 0 ∨ x_365.toInt = 1 from by have q_374 : (x_365).toInt = x_365.toInt := (rfl : x_365.toInt = _); omega⟩
      · refine zH_eqc (rfl : x_3.toInt = _) (iL (7) (7) rfl) (fun c_375e c_375 => ?_) (fun c_375e c_375 => ?_)
        · unfold fX2_readStatement_n52
          refine zH_lec (iL (60) (60) rfl) (rfl : a1.toInt = _) (fun c_376 => ?_) (fun c_376 => ?_)
          · unfold fX2_readStatement_n66
            have q_377 : (6 : Int32).toInt = (6 : Int) := (iL (6) (6) rfl)
            refine zH_bp (tX7_refuse h.hl h.jl) (fun x_378 μ_379 p_380 => ?_)
            have h_381 : J false L M μ_379 := h.lex p_380.1
            have q_382 : (μ_379 18 10).toInt = (μ 18 10).toInt := congrArg Int32.toInt (congrFun (p_380.1.1 18 (by decide)) (10))
            have q_383 : (μ_379 19 2).toInt = (μ 19 2).toInt := congrArg Int32.toInt (congrFun (p_380.1.1 19 (by decide)) (2))
            have q_384 : (μ_379 19 x_3.toNatClampNeg).toInt = (μ 19 x_3.toNatClampNeg).toInt := congrArg Int32.toInt (congrFun (p_380.1.1 19 (by decide)) (x_3.toNatClampNeg))
            have q_385 : x_378.toInt = 0 := p_380.2
            refine zH_ck (zBo (show (x_378).toInt = 0 ∨ (x_378).toInt = 1 from by have q_386 : (x_378).toInt = x_378.toInt := (rfl : x_378.toInt = _); omega)) ?_
            exact zH_some ⟨h_381, show x_378.toInt = 0 ∨ x_378.toInt = 1 from by have q_387 : (x_378).toInt = x_378.toInt := (rfl : x_378.toInt = _); omega⟩
          · refine zH_bd (tX2_isFull h (by omega)) (fun x_388 p_389 => ?_)
            have q_390 : (x_388.toInt = 0 ∨ x_388.toInt = 1) ∧ (x_388.toInt = 0 → (x_3.toInt = 11 → (μ 18 10).toInt < 24) ∧ (x_3.toInt = 2 → (μ 19 2).toInt < 5) ∧ (x_3.toInt ≤ 2 → (μ 19 x_3.toNatClampNeg).toInt < 8 ∧ (x_3.toInt = 0 → (μ 19 x_3.toNatClampNeg).toInt < 6) ∧ (x_3.toInt = 2 → (μ 19 x_3.toNatClampNeg).toInt < 5))) := p_389
            have f_391 : (0 : Int) ≤ (μ 18 10).toInt ∧ (μ 18 10).toInt ≤ 24 := h.rd (a := 18) rfl (by decide) 10
            have f_392 : (0 : Int) ≤ (μ 19 2).toInt ∧ (μ 19 2).toInt ≤ 5 := h.rd (a := 19) rfl (by decide) 2
            refine zH_eqc (rfl : x_388.toInt = _) (iL (0) (0) rfl) (fun c_393e c_393 => ?_) (fun c_393e c_393 => ?_)
            · refine zH_bd (tX7_advance h.hl h.jl) (fun μ_394 p_395 => ?_)
              have h_396 : J false L M μ_394 := h.lex p_395
              have q_397 : (μ_394 18 10).toInt = (μ 18 10).toInt := congrArg Int32.toInt (congrFun (p_395.1 18 (by decide)) (10))
              have q_398 : (μ_394 19 2).toInt = (μ 19 2).toInt := congrArg Int32.toInt (congrFun (p_395.1 19 (by decide)) (2))
              have q_399 : (μ_394 19 x_3.toNatClampNeg).toInt = (μ 19 x_3.toNatClampNeg).toInt := congrArg Int32.toInt (congrFun (p_395.1 19 (by decide)) (x_3.toNatClampNeg))
              refine zH_eqc (rfl : x_3.toInt = _) (iL (2) (2) rfl) (fun c_400e c_400 => ?_) (fun c_400e c_400 => ?_)
              · refine zH_bp (tX2_readGroup h_396 (by omega)) (fun x_401 μ_402 p_403 => ?_)
                have h_404 : J false L M μ_402 := p_403.1
                have q_405 : x_401.toInt = 0 ∨ x_401.toInt = 1 := p_403.2
                unfold fX2_readStatement_n154
                refine zH_eqc (rfl : x_401.toInt = _) (iL (0) (0) rfl) (fun c_406e c_406 => ?_) (fun c_406e c_406 => ?_)
                · have q_407 : (0 : Int32).toInt = (0 : Int) := (iL (0) (0) rfl)
                  exact zH_some ⟨h_404, show (0 : Int32).toInt = 0 ∨ (0 : Int32).toInt = 1 from by have q_408 : ((0 : Int32)).toInt = (0 : Int) := (iL (0) (0) rfl); omega⟩
                · refine zH_bp (tX7_passStop h_404.hl h_404.jl) (fun x_409 μ_410 p_411 => ?_)
                  have h_412 : J false L M μ_410 := h_404.lex p_411.1
                  have q_413 : (μ_410 18 10).toInt = (μ_402 18 10).toInt := congrArg Int32.toInt (congrFun (p_411.1.1 18 (by decide)) (10))
                  have q_414 : (μ_410 19 2).toInt = (μ_402 19 2).toInt := congrArg Int32.toInt (congrFun (p_411.1.1 19 (by decide)) (2))
                  have q_415 : (μ_410 19 x_3.toNatClampNeg).toInt = (μ_402 19 x_3.toNatClampNeg).toInt := congrArg Int32.toInt (congrFun (p_411.1.1 19 (by decide)) (x_3.toNatClampNeg))
                  have q_416 : x_409.toInt = 0 ∨ x_409.toInt = 1 := p_411.2
                  refine zH_eqc (rfl : x_409.toInt = _) (iL (0) (0) rfl) (fun c_417e c_417 => ?_) (fun c_417e c_417 => ?_)
                  · have q_418 : (0 : Int32).toInt = (0 : Int) := (iL (0) (0) rfl)
                    exact zH_some ⟨h_412, show (0 : Int32).toInt = 0 ∨ (0 : Int32).toInt = 1 from by have q_419 : ((0 : Int32)).toInt = (0 : Int) := (iL (0) (0) rfl); omega⟩
                  · have q_420 : (1 : Int32).toInt = (1 : Int) := (iL (1) (1) rfl)
                    exact zH_some ⟨h_412, show (1 : Int32).toInt = 0 ∨ (1 : Int32).toInt = 1 from by have q_421 : ((1 : Int32)).toInt = (1 : Int) := (iL (1) (1) rfl); omega⟩
              · refine zH_eqc (rfl : x_3.toInt = _) (iL (7) (7) rfl) (fun c_422e c_422 => ?_) (fun c_422e c_422 => ?_)
                · refine zH_bp (tX2_readMember h_396) (fun x_423 μ_424 p_425 => ?_)
                  have h_426 : J false L M μ_424 := p_425.1
                  have q_427 : x_423.toInt = 0 ∨ x_423.toInt = 1 := p_425.2
                  unfold fX2_readStatement_n154
                  refine zH_eqc (rfl : x_423.toInt = _) (iL (0) (0) rfl) (fun c_428e c_428 => ?_) (fun c_428e c_428 => ?_)
                  · have q_429 : (0 : Int32).toInt = (0 : Int) := (iL (0) (0) rfl)
                    exact zH_some ⟨h_426, show (0 : Int32).toInt = 0 ∨ (0 : Int32).toInt = 1 from by have q_430 : ((0 : Int32)).toInt = (0 : Int) := (iL (0) (0) rfl); omega⟩
                  · refine zH_bp (tX7_passStop h_426.hl h_426.jl) (fun x_431 μ_432 p_433 => ?_)
                    have h_434 : J false L M μ_432 := h_426.lex p_433.1
                    have q_435 : (μ_432 18 10).toInt = (μ_424 18 10).toInt := congrArg Int32.toInt (congrFun (p_433.1.1 18 (by decide)) (10))
                    have q_436 : (μ_432 19 2).toInt = (μ_424 19 2).toInt := congrArg Int32.toInt (congrFun (p_433.1.1 19 (by decide)) (2))
                    have q_437 : (μ_432 19 x_3.toNatClampNeg).toInt = (μ_424 19 x_3.toNatClampNeg).toInt := congrArg Int32.toInt (congrFun (p_433.1.1 19 (by decide)) (x_3.toNatClampNeg))
                    have q_438 : x_431.toInt = 0 ∨ x_431.toInt = 1 := p_433.2
                    refine zH_eqc (rfl : x_431.toInt = _) (iL (0) (0) rfl) (fun c_439e c_439 => ?_) (fun c_439e c_439 => ?_)
                    · have q_440 : (0 : Int32).toInt = (0 : Int) := (iL (0) (0) rfl)
                      exact zH_some ⟨h_434, show (0 : Int32).toInt = 0 ∨ (0 : Int32).toInt = 1 from by have q_441 : ((0 : Int32)).toInt = (0 : Int) := (iL (0) (0) rfl); omega⟩
                    · have q_442 : (1 : Int32).toInt = (1 : Int) := (iL (1) (1) rfl)
                      exact zH_some ⟨h_434, show (1 : Int32).toInt = 0 ∨ (1 : Int32).toInt = 1 from by have q_443 : ((1 : Int32)).toInt = (1 : Int) := (iL (1) (1) rfl); omega⟩
                · refine zH_eqc (rfl : x_3.toInt = _) (iL (11) (11) rfl) (fun c_444e c_444 => ?_) (fun c_444e c_444 => ?_)
                  · refine zH_bp (tX2_readTrack h_396 (by omega)) (fun x_445 μ_446 p_447 => ?_)
                    have h_448 : J false L M μ_446 := p_447.1
                    have q_449 : x_445.toInt = 0 ∨ x_445.toInt = 1 := p_447.2
                    unfold fX2_readStatement_n154
                    refine zH_eqc (rfl : x_445.toInt = _) (iL (0) (0) rfl) (fun c_450e c_450 => ?_) (fun c_450e c_450 => ?_)
                    · have q_451 : (0 : Int32).toInt = (0 : Int) := (iL (0) (0) rfl)
                      exact zH_some ⟨h_448, show (0 : Int32).toInt = 0 ∨ (0 : Int32).toInt = 1 from by have q_452 : ((0 : Int32)).toInt = (0 : Int) := (iL (0) (0) rfl); omega⟩
                    · refine zH_bp (tX7_passStop h_448.hl h_448.jl) (fun x_453 μ_454 p_455 => ?_)
                      have h_456 : J false L M μ_454 := h_448.lex p_455.1
                      have q_457 : (μ_454 18 10).toInt = (μ_446 18 10).toInt := congrArg Int32.toInt (congrFun (p_455.1.1 18 (by decide)) (10))
                      have q_458 : (μ_454 19 2).toInt = (μ_446 19 2).toInt := congrArg Int32.toInt (congrFun (p_455.1.1 19 (by decide)) (2))
                      have q_459 : (μ_454 19 x_3.toNatClampNeg).toInt = (μ_446 19 x_3.toNatClampNeg).toInt := congrArg Int32.toInt (congrFun (p_455.1.1 19 (by decide)) (x_3.toNatClampNeg))
                      have q_460 : x_453.toInt = 0 ∨ x_453.toInt = 1 := p_455.2
                      refine zH_eqc (rfl : x_453.toInt = _) (iL (0) (0) rfl) (fun c_461e c_461 => ?_) (fun c_461e c_461 => ?_)
                      · have q_462 : (0 : Int32).toInt = (0 : Int) := (iL (0) (0) rfl)
                        exact zH_some ⟨h_456, show (0 : Int32).toInt = 0 ∨ (0 : Int32).toInt = 1 from by have q_463 : ((0 : Int32)).toInt = (0 : Int) := (iL (0) (0) rfl); omega⟩
                      · have q_464 : (1 : Int32).toInt = (1 : Int) := (iL (1) (1) rfl)
                        exact zH_some ⟨h_456, show (1 : Int32).toInt = 0 ∨ (1 : Int32).toInt = 1 from by have q_465 : ((1 : Int32)).toInt = (1 : Int) := (iL (1) (1) rfl); omega⟩
                  · refine zH_bp (tX2_readName h_396 (by omega) (by omega) (by omega) (by omega) (by omega)) (fun x_466 μ_467 p_468 => ?_)
                    have h_469 : J false L M μ_467 := p_468.1
                    have q_470 : x_466.toInt = 0 ∨ x_466.toInt = 1 := p_468.2
                    unfold fX2_readStatement_n154
                    refine zH_eqc (rfl : x_466.toInt = _) (iL (0) (0) rfl) (fun c_471e c_471 => ?_) (fun c_471e c_471 => ?_)
                    · have q_472 : (0 : Int32).toInt = (0 : Int) := (iL (0) (0) rfl)
                      exact zH_some ⟨h_469, show (0 : Int32).toInt = 0 ∨ (0 : Int32).toInt = 1 from by have q_473 : ((0 : Int32)).toInt = (0 : Int) := (iL (0) (0) rfl); omega⟩
                    · refine zH_bp (tX7_passStop h_469.hl h_469.jl) (fun x_474 μ_475 p_476 => ?_)
                      have h_477 : J false L M μ_475 := h_469.lex p_476.1
                      have q_478 : (μ_475 18 10).toInt = (μ_467 18 10).toInt := congrArg Int32.toInt (congrFun (p_476.1.1 18 (by decide)) (10))
                      have q_479 : (μ_475 19 2).toInt = (μ_467 19 2).toInt := congrArg Int32.toInt (congrFun (p_476.1.1 19 (by decide)) (2))
                      have q_480 : (μ_475 19 x_3.toNatClampNeg).toInt = (μ_467 19 x_3.toNatClampNeg).toInt := congrArg Int32.toInt (congrFun (p_476.1.1 19 (by decide)) (x_3.toNatClampNeg))
                      have q_481 : x_474.toInt = 0 ∨ x_474.toInt = 1 := p_476.2
                      refine zH_eqc (rfl : x_474.toInt = _) (iL (0) (0) rfl) (fun c_482e c_482 => ?_) (fun c_482e c_482 => ?_)
                      · have q_483 : (0 : Int32).toInt = (0 : Int) := (iL (0) (0) rfl)
                        exact zH_some ⟨h_477, show (0 : Int32).toInt = 0 ∨ (0 : Int32).toInt = 1 from by have q_484 : ((0 : Int32)).toInt = (0 : Int) := (iL (0) (0) rfl); omega⟩
                      · have q_485 : (1 : Int32).toInt = (1 : Int) := (iL (1) (1) rfl)
                        exact zH_some ⟨h_477, show (1 : Int32).toInt = 0 ∨ (1 : Int32).toInt = 1 from by have q_486 : ((1 : Int32)).toInt = (1 : Int) := (iL (1) (1) rfl); omega⟩
            · unfold fX2_readStatement_n66
              have q_487 : (6 : Int32).toInt = (6 : Int) := (iL (6) (6) rfl)
              refine zH_bp (tX7_refuse h.hl h.jl) (fun x_488 μ_489 p_490 => ?_)
              have h_491 : J false L M μ_489 := h.lex p_490.1
              have q_492 : (μ_489 18 10).toInt = (μ 18 10).toInt := congrArg Int32.toInt (congrFun (p_490.1.1 18 (by decide)) (10))
              have q_493 : (μ_489 19 2).toInt = (μ 19 2).toInt := congrArg Int32.toInt (congrFun (p_490.1.1 19 (by decide)) (2))
              have q_494 : (μ_489 19 x_3.toNatClampNeg).toInt = (μ 19 x_3.toNatClampNeg).toInt := congrArg Int32.toInt (congrFun (p_490.1.1 19 (by decide)) (x_3.toNatClampNeg))
              have q_495 : x_488.toInt = 0 := p_490.2
              refine zH_ck (zBo (show (x_488).toInt = 0 ∨ (x_488).toInt = 1 from by have q_496 : (x_488).toInt = x_488.toInt := (rfl : x_488.toInt = _); omega)) ?_
              exact zH_some ⟨h_491, show x_488.toInt = 0 ∨ x_488.toInt = 1 from by have q_497 : (x_488).toInt = x_488.toInt := (rfl : x_488.toInt = _); omega⟩
        · refine zH_eqc (rfl : x_3.toInt = _) (iL (11) (11) rfl) (fun c_498e c_498 => ?_) (fun c_498e c_498 => ?_)
          · unfold fX2_readStatement_n52
            refine zH_lec (iL (60) (60) rfl) (rfl : a1.toInt = _) (fun c_499 => ?_) (fun c_499 => ?_)
            · unfold fX2_readStatement_n66
              have q_500 : (6 : Int32).toInt = (6 : Int) := (iL (6) (6) rfl)
              refine zH_bp (tX7_refuse h.hl h.jl) (fun x_501 μ_502 p_503 => ?_)
              have h_504 : J false L M μ_502 := h.lex p_503.1
              have q_505 : (μ_502 18 10).toInt = (μ 18 10).toInt := congrArg Int32.toInt (congrFun (p_503.1.1 18 (by decide)) (10))
              have q_506 : (μ_502 19 2).toInt = (μ 19 2).toInt := congrArg Int32.toInt (congrFun (p_503.1.1 19 (by decide)) (2))
              have q_507 : (μ_502 19 x_3.toNatClampNeg).toInt = (μ 19 x_3.toNatClampNeg).toInt := congrArg Int32.toInt (congrFun (p_503.1.1 19 (by decide)) (x_3.toNatClampNeg))
              have q_508 : x_501.toInt = 0 := p_503.2
              refine zH_ck (zBo (show (x_501).toInt = 0 ∨ (x_501).toInt = 1 from by have q_509 : (x_501).toInt = x_501.toInt := (rfl : x_501.toInt = _); omega)) ?_
              exact zH_some ⟨h_504, show x_501.toInt = 0 ∨ x_501.toInt = 1 from by have q_510 : (x_501).toInt = x_501.toInt := (rfl : x_501.toInt = _); omega⟩
            · refine zH_bd (tX2_isFull h (by omega)) (fun x_511 p_512 => ?_)
              have q_513 : (x_511.toInt = 0 ∨ x_511.toInt = 1) ∧ (x_511.toInt = 0 → (x_3.toInt = 11 → (μ 18 10).toInt < 24) ∧ (x_3.toInt = 2 → (μ 19 2).toInt < 5) ∧ (x_3.toInt ≤ 2 → (μ 19 x_3.toNatClampNeg).toInt < 8 ∧ (x_3.toInt = 0 → (μ 19 x_3.toNatClampNeg).toInt < 6) ∧ (x_3.toInt = 2 → (μ 19 x_3.toNatClampNeg).toInt < 5))) := p_512
              have f_514 : (0 : Int) ≤ (μ 18 10).toInt ∧ (μ 18 10).toInt ≤ 24 := h.rd (a := 18) rfl (by decide) 10
              have f_515 : (0 : Int) ≤ (μ 19 2).toInt ∧ (μ 19 2).toInt ≤ 5 := h.rd (a := 19) rfl (by decide) 2
              refine zH_eqc (rfl : x_511.toInt = _) (iL (0) (0) rfl) (fun c_516e c_516 => ?_) (fun c_516e c_516 => ?_)
              · refine zH_bd (tX7_advance h.hl h.jl) (fun μ_517 p_518 => ?_)
                have h_519 : J false L M μ_517 := h.lex p_518
                have q_520 : (μ_517 18 10).toInt = (μ 18 10).toInt := congrArg Int32.toInt (congrFun (p_518.1 18 (by decide)) (10))
                have q_521 : (μ_517 19 2).toInt = (μ 19 2).toInt := congrArg Int32.toInt (congrFun (p_518.1 19 (by decide)) (2))
                have q_522 : (μ_517 19 x_3.toNatClampNeg).toInt = (μ 19 x_3.toNatClampNeg).toInt := congrArg Int32.toInt (congrFun (p_518.1 19 (by decide)) (x_3.toNatClampNeg))
                refine zH_eqc (rfl : x_3.toInt = _) (iL (2) (2) rfl) (fun c_523e c_523 => ?_) (fun c_523e c_523 => ?_)
                · refine zH_bp (tX2_readGroup h_519 (by omega)) (fun x_524 μ_525 p_526 => ?_)
                  have h_527 : J false L M μ_525 := p_526.1
                  have q_528 : x_524.toInt = 0 ∨ x_524.toInt = 1 := p_526.2
                  unfold fX2_readStatement_n154
                  refine zH_eqc (rfl : x_524.toInt = _) (iL (0) (0) rfl) (fun c_529e c_529 => ?_) (fun c_529e c_529 => ?_)
                  · have q_530 : (0 : Int32).toInt = (0 : Int) := (iL (0) (0) rfl)
                    exact zH_some ⟨h_527, show (0 : Int32).toInt = 0 ∨ (0 : Int32).toInt = 1 from by have q_531 : ((0 : Int32)).toInt = (0 : Int) := (iL (0) (0) rfl); omega⟩
                  · refine zH_bp (tX7_passStop h_527.hl h_527.jl) (fun x_532 μ_533 p_534 => ?_)
                    have h_535 : J false L M μ_533 := h_527.lex p_534.1
                    have q_536 : (μ_533 18 10).toInt = (μ_525 18 10).toInt := congrArg Int32.toInt (congrFun (p_534.1.1 18 (by decide)) (10))
                    have q_537 : (μ_533 19 2).toInt = (μ_525 19 2).toInt := congrArg Int32.toInt (congrFun (p_534.1.1 19 (by decide)) (2))
                    have q_538 : (μ_533 19 x_3.toNatClampNeg).toInt = (μ_525 19 x_3.toNatClampNeg).toInt := congrArg Int32.toInt (congrFun (p_534.1.1 19 (by decide)) (x_3.toNatClampNeg))
                    have q_539 : x_532.toInt = 0 ∨ x_532.toInt = 1 := p_534.2
                    refine zH_eqc (rfl : x_532.toInt = _) (iL (0) (0) rfl) (fun c_540e c_540 => ?_) (fun c_540e c_540 => ?_)
                    · have q_541 : (0 : Int32).toInt = (0 : Int) := (iL (0) (0) rfl)
                      exact zH_some ⟨h_535, show (0 : Int32).toInt = 0 ∨ (0 : Int32).toInt = 1 from by have q_542 : ((0 : Int32)).toInt = (0 : Int) := (iL (0) (0) rfl); omega⟩
                    · have q_543 : (1 : Int32).toInt = (1 : Int) := (iL (1) (1) rfl)
                      exact zH_some ⟨h_535, show (1 : Int32).toInt = 0 ∨ (1 : Int32).toInt = 1 from by have q_544 : ((1 : Int32)).toInt = (1 : Int) := (iL (1) (1) rfl); omega⟩
                · refine zH_eqc (rfl : x_3.toInt = _) (iL (7) (7) rfl) (fun c_545e c_545 => ?_) (fun c_545e c_545 => ?_)
                  · refine zH_bp (tX2_readMember h_519) (fun x_546 μ_547 p_548 => ?_)
                    have h_549 : J false L M μ_547 := p_548.1
                    have q_550 : x_546.toInt = 0 ∨ x_546.toInt = 1 := p_548.2
                    unfold fX2_readStatement_n154
                    refine zH_eqc (rfl : x_546.toInt = _) (iL (0) (0) rfl) (fun c_551e c_551 => ?_) (fun c_551e c_551 => ?_)
                    · have q_552 : (0 : Int32).toInt = (0 : Int) := (iL (0) (0) rfl)
                      exact zH_some ⟨h_549, show (0 : Int32).toInt = 0 ∨ (0 : Int32).toInt = 1 from by have q_553 : ((0 : Int32)).toInt = (0 : Int) := (iL (0) (0) rfl); omega⟩
                    · refine zH_bp (tX7_passStop h_549.hl h_549.jl) (fun x_554 μ_555 p_556 => ?_)
                      have h_557 : J false L M μ_555 := h_549.lex p_556.1
                      have q_558 : (μ_555 18 10).toInt = (μ_547 18 10).toInt := congrArg Int32.toInt (congrFun (p_556.1.1 18 (by decide)) (10))
                      have q_559 : (μ_555 19 2).toInt = (μ_547 19 2).toInt := congrArg Int32.toInt (congrFun (p_556.1.1 19 (by decide)) (2))
                      have q_560 : (μ_555 19 x_3.toNatClampNeg).toInt = (μ_547 19 x_3.toNatClampNeg).toInt := congrArg Int32.toInt (congrFun (p_556.1.1 19 (by decide)) (x_3.toNatClampNeg))
                      have q_561 : x_554.toInt = 0 ∨ x_554.toInt = 1 := p_556.2
                      refine zH_eqc (rfl : x_554.toInt = _) (iL (0) (0) rfl) (fun c_562e c_562 => ?_) (fun c_562e c_562 => ?_)
                      · have q_563 : (0 : Int32).toInt = (0 : Int) := (iL (0) (0) rfl)
                        exact zH_some ⟨h_557, show (0 : Int32).toInt = 0 ∨ (0 : Int32).toInt = 1 from by have q_564 : ((0 : Int32)).toInt = (0 : Int) := (iL (0) (0) rfl); omega⟩
                      · have q_565 : (1 : Int32).toInt = (1 : Int) := (iL (1) (1) rfl)
                        exact zH_some ⟨h_557, show (1 : Int32).toInt = 0 ∨ (1 : Int32).toInt = 1 from by have q_566 : ((1 : Int32)).toInt = (1 : Int) := (iL (1) (1) rfl); omega⟩
                  · refine zH_eqc (rfl : x_3.toInt = _) (iL (11) (11) rfl) (fun c_567e c_567 => ?_) (fun c_567e c_567 => ?_)
                    · refine zH_bp (tX2_readTrack h_519 (by omega)) (fun x_568 μ_569 p_570 => ?_)
                      have h_571 : J false L M μ_569 := p_570.1
                      have q_572 : x_568.toInt = 0 ∨ x_568.toInt = 1 := p_570.2
                      unfold fX2_readStatement_n154
                      refine zH_eqc (rfl : x_568.toInt = _) (iL (0) (0) rfl) (fun c_573e c_573 => ?_) (fun c_573e c_573 => ?_)
                      · have q_574 : (0 : Int32).toInt = (0 : Int) := (iL (0) (0) rfl)
                        exact zH_some ⟨h_571, show (0 : Int32).toInt = 0 ∨ (0 : Int32).toInt = 1 from by have q_575 : ((0 : Int32)).toInt = (0 : Int) := (iL (0) (0) rfl); omega⟩
                      · refine zH_bp (tX7_passStop h_571.hl h_571.jl) (fun x_576 μ_577 p_578 => ?_)
                        have h_579 : J false L M μ_577 := h_571.lex p_578.1
                        have q_580 : (μ_577 18 10).toInt = (μ_569 18 10).toInt := congrArg Int32.toInt (congrFun (p_578.1.1 18 (by decide)) (10))
                        have q_581 : (μ_577 19 2).toInt = (μ_569 19 2).toInt := congrArg Int32.toInt (congrFun (p_578.1.1 19 (by decide)) (2))
                        have q_582 : (μ_577 19 x_3.toNatClampNeg).toInt = (μ_569 19 x_3.toNatClampNeg).toInt := congrArg Int32.toInt (congrFun (p_578.1.1 19 (by decide)) (x_3.toNatClampNeg))
                        have q_583 : x_576.toInt = 0 ∨ x_576.toInt = 1 := p_578.2
                        refine zH_eqc (rfl : x_576.toInt = _) (iL (0) (0) rfl) (fun c_584e c_584 => ?_) (fun c_584e c_584 => ?_)
                        · have q_585 : (0 : Int32).toInt = (0 : Int) := (iL (0) (0) rfl)
                          exact zH_some ⟨h_579, show (0 : Int32).toInt = 0 ∨ (0 : Int32).toInt = 1 from by have q_586 : ((0 : Int32)).toInt = (0 : Int) := (iL (0) (0) rfl); omega⟩
                        · have q_587 : (1 : Int32).toInt = (1 : Int) := (iL (1) (1) rfl)
                          exact zH_some ⟨h_579, show (1 : Int32).toInt = 0 ∨ (1 : Int32).toInt = 1 from by have q_588 : ((1 : Int32)).toInt = (1 : Int) := (iL (1) (1) rfl); omega⟩
                    · refine zH_bp (tX2_readName h_519 (by omega) (by omega) (by omega) (by omega) (by omega)) (fun x_589 μ_590 p_591 => ?_)
                      have h_592 : J false L M μ_590 := p_591.1
                      have q_593 : x_589.toInt = 0 ∨ x_589.toInt = 1 := p_591.2
                      unfold fX2_readStatement_n154
                      refine zH_eqc (rfl : x_589.toInt = _) (iL (0) (0) rfl) (fun c_594e c_594 => ?_) (fun c_594e c_594 => ?_)
                      · have q_595 : (0 : Int32).toInt = (0 : Int) := (iL (0) (0) rfl)
                        exact zH_some ⟨h_592, show (0 : Int32).toInt = 0 ∨ (0 : Int32).toInt = 1 from by have q_596 : ((0 : Int32)).toInt = (0 : Int) := (iL (0) (0) rfl); omega⟩
                      · refine zH_bp (tX7_passStop h_592.hl h_592.jl) (fun x_597 μ_598 p_599 => ?_)
                        have h_600 : J false L M μ_598 := h_592.lex p_599.1
                        have q_601 : (μ_598 18 10).toInt = (μ_590 18 10).toInt := congrArg Int32.toInt (congrFun (p_599.1.1 18 (by decide)) (10))
                        have q_602 : (μ_598 19 2).toInt = (μ_590 19 2).toInt := congrArg Int32.toInt (congrFun (p_599.1.1 19 (by decide)) (2))
                        have q_603 : (μ_598 19 x_3.toNatClampNeg).toInt = (μ_590 19 x_3.toNatClampNeg).toInt := congrArg Int32.toInt (congrFun (p_599.1.1 19 (by decide)) (x_3.toNatClampNeg))
                        have q_604 : x_597.toInt = 0 ∨ x_597.toInt = 1 := p_599.2
                        refine zH_eqc (rfl : x_597.toInt = _) (iL (0) (0) rfl) (fun c_605e c_605 => ?_) (fun c_605e c_605 => ?_)
                        · have q_606 : (0 : Int32).toInt = (0 : Int) := (iL (0) (0) rfl)
                          exact zH_some ⟨h_600, show (0 : Int32).toInt = 0 ∨ (0 : Int32).toInt = 1 from by have q_607 : ((0 : Int32)).toInt = (0 : Int) := (iL (0) (0) rfl); omega⟩
                        · have q_608 : (1 : Int32).toInt = (1 : Int) := (iL (1) (1) rfl)
                          exact zH_some ⟨h_600, show (1 : Int32).toInt = 0 ∨ (1 : Int32).toInt = 1 from by have q_609 : ((1 : Int32)).toInt = (1 : Int) := (iL (1) (1) rfl); omega⟩
              · unfold fX2_readStatement_n66
                have q_610 : (6 : Int32).toInt = (6 : Int) := (iL (6) (6) rfl)
                refine zH_bp (tX7_refuse h.hl h.jl) (fun x_611 μ_612 p_613 => ?_)
                have h_614 : J false L M μ_612 := h.lex p_613.1
                have q_615 : (μ_612 18 10).toInt = (μ 18 10).toInt := congrArg Int32.toInt (congrFun (p_613.1.1 18 (by decide)) (10))
                have q_616 : (μ_612 19 2).toInt = (μ 19 2).toInt := congrArg Int32.toInt (congrFun (p_613.1.1 19 (by decide)) (2))
                have q_617 : (μ_612 19 x_3.toNatClampNeg).toInt = (μ 19 x_3.toNatClampNeg).toInt := congrArg Int32.toInt (congrFun (p_613.1.1 19 (by decide)) (x_3.toNatClampNeg))
                have q_618 : x_611.toInt = 0 := p_613.2
                refine zH_ck (zBo (show (x_611).toInt = 0 ∨ (x_611).toInt = 1 from by have q_619 : (x_611).toInt = x_611.toInt := (rfl : x_611.toInt = _); omega)) ?_
                exact zH_some ⟨h_614, show x_611.toInt = 0 ∨ x_611.toInt = 1 from by have q_620 : (x_611).toInt = x_611.toInt := (rfl : x_611.toInt = _); omega⟩
          · have q_621 : (1 : Int32).toInt = (1 : Int) := (iL (1) (1) rfl)
            refine zH_bp (tX7_refuse h.hl h.jl) (fun x_622 μ_623 p_624 => ?_)
            have h_625 : J false L M μ_623 := h.lex p_624.1
            have q_626 : (μ_623 18 10).toInt = (μ 18 10).toInt := congrArg Int32.toInt (congrFun (p_624.1.1 18 (by decide)) (10))
            have q_627 : (μ_623 19 2).toInt = (μ 19 2).toInt := congrArg Int32.toInt (congrFun (p_624.1.1 19 (by decide)) (2))
            have q_628 : (μ_623 19 x_3.toNatClampNeg).toInt = (μ 19 x_3.toNatClampNeg).toInt := congrArg Int32.toInt (congrFun (p_624.1.1 19 (by decide)) (x_3.toNatClampNeg))
            have q_629 : x_622.toInt = 0 := p_624.2
            refine zH_ck (zBo (show (x_622).toInt = 0 ∨ (x_622).toInt = 1 from by have q_630 : (x_622).toInt = x_622.toInt := (rfl : x_622.toInt = _); omega)) ?_
            exact zH_some ⟨h_625, show x_622.toInt = 0 ∨ x_622.toInt = 1 from by have q_631 : (x_622).toInt = x_622.toInt := (rfl : x_622.toInt = _); omega⟩
theorem tX2_read_l16 {L : Int32} {M : gM}    : ∀ (n : Nat) (y1 : Int32) (μ : gM), J false L M μ → 0 ≤ y1.toInt → y1.toInt ≤ 61 → 61 - y1.toInt < (n : Int) → zH (fX2_read_l16  n y1 μ) (fun r => J false L M r.2 ∧ (r.1.toInt = 0 ∨ r.1.toInt = 1)) := by
  intro n
  induction n with
  | zero =>
    intro y1 μ  h g0 g1 gm
    exact absurd gm (by omega)
  | succ n ih =>
    intro y1 μ  h g0 g1 gm
    rw [fX2_read_l16]
    refine zH_ltc (iL (60) (60) rfl) (rfl : y1.toInt = _) (fun c_1 => ?_) (fun c_1 => ?_)
    · have q_2 : (1 : Int32).toInt = (1 : Int) := (iL (1) (1) rfl)
      exact zH_some ⟨h, show (1 : Int32).toInt = 0 ∨ (1 : Int32).toInt = 1 from by have q_3 : ((1 : Int32)).toInt = (1 : Int) := (iL (1) (1) rfl); omega⟩
    · refine zH_bd (tX7_isEnded) (fun x_4 p_5 => ?_)
      have q_6 : x_4.toInt = 0 ∨ x_4.toInt = 1 := p_5
      refine zH_eqc (rfl : x_4.toInt = _) (iL (0) (0) rfl) (fun c_7e c_7 => ?_) (fun c_7e c_7 => ?_)
      · refine zH_bp (tX2_readStatement h) (fun x_8 μ_9 p_10 => ?_)
        have h_11 : J false L M μ_9 := p_10.1
        have q_12 : x_8.toInt = 0 ∨ x_8.toInt = 1 := p_10.2
        refine zH_eqc (rfl : x_8.toInt = _) (iL (0) (0) rfl) (fun c_13e c_13 => ?_) (fun c_13e c_13 => ?_)
        · have q_14 : (0 : Int32).toInt = (0 : Int) := (iL (0) (0) rfl)
          exact zH_some ⟨h_11, show (0 : Int32).toInt = 0 ∨ (0 : Int32).toInt = 1 from by have q_15 : ((0 : Int32)).toInt = (0 : Int) := (iL (0) (0) rfl); omega⟩
        · refine zH_lt (fun x_16 e_17 => ?_)
          have q_18 : x_16.toInt = (y1.toInt + (1 : Int)) := (congrArg Int32.toInt e_17).trans (iA (rfl : y1.toInt = _) (iL (1) (1) rfl) (by omega) (by omega))
          exact zH_mono (ih x_16 μ_9 h_11 (by omega) (by omega) (by omega)) (fun r_20 p_19 => ⟨p_19.1, show (r_20.1).toInt = 0 ∨ (r_20.1).toInt = 1 from by have q_21 : (r_20.1).toInt = 0 ∨ (r_20.1).toInt = 1 := p_19.2; omega⟩)
      · have q_22 : (1 : Int32).toInt = (1 : Int) := (iL (1) (1) rfl)
        exact zH_some ⟨h, show (1 : Int32).toInt = 0 ∨ (1 : Int32).toInt = 1 from by have q_23 : ((1 : Int32)).toInt = (1 : Int) := (iL (1) (1) rfl); omega⟩
theorem tX2_read {L : Int32} {M : gM} {μ : gM}  (h : J false L M μ)  : zH (fX2_read μ) (fun r => J false L M r.2 ∧ (r.1.toInt = 0 ∨ r.1.toInt = 1)) := by
  unfold fX2_read
  refine zH_bd (tX1_clear h) (fun μ_1 p_2 => ?_)
  have h_3 : J false L M μ_1 := p_2
  refine zH_bd (tX7_open h_3.hl h_3.jl) (fun μ_4 p_5 => ?_)
  have h_6 : J false L M μ_4 := h_3.lex p_5
  have q_7 : (0 : Int32).toInt = (0 : Int) := (iL (0) (0) rfl)
  exact zH_mono (tX2_read_l16 100000 (0 : Int32) μ_4 h_6 (by omega) (by omega) (by omega)) (fun r_9 p_8 => ⟨p_8.1, show (r_9.1).toInt = 0 ∨ (r_9.1).toInt = 1 from by have q_10 : r_9.1.toInt = 0 ∨ r_9.1.toInt = 1 := p_8.2; omega⟩)
